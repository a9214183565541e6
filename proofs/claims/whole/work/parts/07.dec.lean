theorem dX8_init_0 : decode cX8_init 0 = .ok (.aload_n 0, 1) := by decide +kernel
theorem dX8_init_1 : decode cX8_init 1 = .ok (.invokespecial 1, 3) := by decide +kernel
theorem dX8_init_4 : decode cX8_init 4 = .ok (.aload_n 0, 1) := by decide +kernel
theorem dX8_init_5 : decode cX8_init 5 = .ok (.sipush 1500, 3) := by decide +kernel
theorem dX8_init_8 : decode cX8_init 8 = .ok (.newarray .int, 2) := by decide +kernel
theorem dX8_init_10 : decode cX8_init 10 = .ok (.putfield 7, 3) := by decide +kernel
theorem dX8_init_13 : decode cX8_init 13 = .ok (.aload_n 0, 1) := by decide +kernel
theorem dX8_init_14 : decode cX8_init 14 = .ok (.sipush 1600, 3) := by decide +kernel
theorem dX8_init_17 : decode cX8_init 17 = .ok (.newarray .int, 2) := by decide +kernel
theorem dX8_init_19 : decode cX8_init 19 = .ok (.putfield 13, 3) := by decide +kernel
theorem dX8_init_22 : decode cX8_init 22 = .ok (.aload_n 0, 1) := by decide +kernel
theorem dX8_init_23 : decode cX8_init 23 = .ok (.sipush 1501, 3) := by decide +kernel
theorem dX8_init_26 : decode cX8_init 26 = .ok (.newarray .int, 2) := by decide +kernel
theorem dX8_init_28 : decode cX8_init 28 = .ok (.putfield 16, 3) := by decide +kernel
theorem dX8_init_31 : decode cX8_init 31 = .ok (.aload_n 0, 1) := by decide +kernel
theorem dX8_init_32 : decode cX8_init 32 = .ok (.sipush 1501, 3) := by decide +kernel
theorem dX8_init_35 : decode cX8_init 35 = .ok (.newarray .int, 2) := by decide +kernel
theorem dX8_init_37 : decode cX8_init 37 = .ok (.putfield 19, 3) := by decide +kernel
theorem dX8_init_40 : decode cX8_init 40 = .ok (.aload_n 0, 1) := by decide +kernel
theorem dX8_init_41 : decode cX8_init 41 = .ok (.sipush 1501, 3) := by decide +kernel
theorem dX8_init_44 : decode cX8_init 44 = .ok (.newarray .int, 2) := by decide +kernel
theorem dX8_init_46 : decode cX8_init 46 = .ok (.putfield 22, 3) := by decide +kernel
theorem dX8_init_49 : decode cX8_init 49 = .ok (.aload_n 0, 1) := by decide +kernel
theorem dX8_init_50 : decode cX8_init 50 = .ok (.sipush 1501, 3) := by decide +kernel
theorem dX8_init_53 : decode cX8_init 53 = .ok (.newarray .boolean, 2) := by decide +kernel
theorem dX8_init_55 : decode cX8_init 55 = .ok (.putfield 25, 3) := by decide +kernel
theorem dX8_init_58 : decode cX8_init 58 = .ok (.aload_n 0, 1) := by decide +kernel
theorem dX8_init_59 : decode cX8_init 59 = .ok (.sipush 1501, 3) := by decide +kernel
theorem dX8_init_62 : decode cX8_init 62 = .ok (.newarray .boolean, 2) := by decide +kernel
theorem dX8_init_64 : decode cX8_init 64 = .ok (.putfield 29, 3) := by decide +kernel
theorem dX8_init_67 : decode cX8_init 67 = .ok (.aload_n 0, 1) := by decide +kernel
theorem dX8_init_68 : decode cX8_init 68 = .ok (.sipush 7505, 3) := by decide +kernel
theorem dX8_init_71 : decode cX8_init 71 = .ok (.newarray .int, 2) := by decide +kernel
theorem dX8_init_73 : decode cX8_init 73 = .ok (.putfield 32, 3) := by decide +kernel
theorem dX8_init_76 : decode cX8_init 76 = .ok (.aload_n 0, 1) := by decide +kernel
theorem dX8_init_77 : decode cX8_init 77 = .ok (.sipush 2300, 3) := by decide +kernel
theorem dX8_init_80 : decode cX8_init 80 = .ok (.newarray .int, 2) := by decide +kernel
theorem dX8_init_82 : decode cX8_init 82 = .ok (.putfield 35, 3) := by decide +kernel
theorem dX8_init_85 : decode cX8_init 85 = .ok (.aload_n 0, 1) := by decide +kernel
theorem dX8_init_86 : decode cX8_init 86 = .ok (.sipush 2300, 3) := by decide +kernel
theorem dX8_init_89 : decode cX8_init 89 = .ok (.newarray .int, 2) := by decide +kernel
theorem dX8_init_91 : decode cX8_init 91 = .ok (.putfield 38, 3) := by decide +kernel
theorem dX8_init_94 : decode cX8_init 94 = .ok (.aload_n 0, 1) := by decide +kernel
theorem dX8_init_95 : decode cX8_init 95 = .ok (.sipush 2300, 3) := by decide +kernel
theorem dX8_init_98 : decode cX8_init 98 = .ok (.newarray .int, 2) := by decide +kernel
theorem dX8_init_100 : decode cX8_init 100 = .ok (.putfield 41, 3) := by decide +kernel
theorem dX8_init_103 : decode cX8_init 103 = .ok (.aload_n 0, 1) := by decide +kernel
theorem dX8_init_104 : decode cX8_init 104 = .ok (.sipush 2300, 3) := by decide +kernel
theorem dX8_init_107 : decode cX8_init 107 = .ok (.newarray .int, 2) := by decide +kernel
theorem dX8_init_109 : decode cX8_init 109 = .ok (.putfield 44, 3) := by decide +kernel
theorem dX8_init_112 : decode cX8_init 112 = .ok (.aload_n 0, 1) := by decide +kernel
theorem dX8_init_113 : decode cX8_init 113 = .ok (.sipush 2300, 3) := by decide +kernel
theorem dX8_init_116 : decode cX8_init 116 = .ok (.newarray .boolean, 2) := by decide +kernel
theorem dX8_init_118 : decode cX8_init 118 = .ok (.putfield 47, 3) := by decide +kernel
theorem dX8_init_121 : decode cX8_init 121 = .ok (.aload_n 0, 1) := by decide +kernel
theorem dX8_init_122 : decode cX8_init 122 = .ok (.ldc 50, 2) := by decide +kernel
theorem dX8_init_124 : decode cX8_init 124 = .ok (.newarray .int, 2) := by decide +kernel
theorem dX8_init_126 : decode cX8_init 126 = .ok (.putfield 51, 3) := by decide +kernel
theorem dX8_init_129 : decode cX8_init 129 = .ok (.aload_n 0, 1) := by decide +kernel
theorem dX8_init_130 : decode cX8_init 130 = .ok (.ldc 50, 2) := by decide +kernel
theorem dX8_init_132 : decode cX8_init 132 = .ok (.newarray .int, 2) := by decide +kernel
theorem dX8_init_134 : decode cX8_init 134 = .ok (.putfield 54, 3) := by decide +kernel
theorem dX8_init_137 : decode cX8_init 137 = .ok (.aload_n 0, 1) := by decide +kernel
theorem dX8_init_138 : decode cX8_init 138 = .ok (.bipush 32, 2) := by decide +kernel
theorem dX8_init_140 : decode cX8_init 140 = .ok (.newarray .int, 2) := by decide +kernel
theorem dX8_init_142 : decode cX8_init 142 = .ok (.putfield 57, 3) := by decide +kernel
theorem dX8_init_145 : decode cX8_init 145 = .ok (.return_, 1) := by decide +kernel
theorem dX8_take_0 : decode cX8_take 0 = .ok (.aload_n 0, 1) := by decide +kernel
theorem dX8_take_1 : decode cX8_take 1 = .ok (.getfield 64, 3) := by decide +kernel
theorem dX8_take_4 : decode cX8_take 4 = .ok (.sipush 1500, 3) := by decide +kernel
theorem dX8_take_7 : decode cX8_take 7 = .ok (.if_icmp .ne 4, 3) := by decide +kernel
theorem dX8_take_10 : decode cX8_take 10 = .ok (.return_, 1) := by decide +kernel
theorem dX8_take_11 : decode cX8_take 11 = .ok (.aload_n 0, 1) := by decide +kernel
theorem dX8_take_12 : decode cX8_take 12 = .ok (.getfield 7, 3) := by decide +kernel
theorem dX8_take_15 : decode cX8_take 15 = .ok (.aload_n 0, 1) := by decide +kernel
theorem dX8_take_16 : decode cX8_take 16 = .ok (.getfield 64, 3) := by decide +kernel
theorem dX8_take_19 : decode cX8_take 19 = .ok (.iload_n 1, 1) := by decide +kernel
theorem dX8_take_20 : decode cX8_take 20 = .ok (.iastore, 1) := by decide +kernel
theorem dX8_take_21 : decode cX8_take 21 = .ok (.aload_n 0, 1) := by decide +kernel
theorem dX8_take_22 : decode cX8_take 22 = .ok (.dup, 1) := by decide +kernel
theorem dX8_take_23 : decode cX8_take 23 = .ok (.getfield 64, 3) := by decide +kernel
theorem dX8_take_26 : decode cX8_take 26 = .ok (.iconst 1, 1) := by decide +kernel
theorem dX8_take_27 : decode cX8_take 27 = .ok (.iadd, 1) := by decide +kernel
theorem dX8_take_28 : decode cX8_take 28 = .ok (.putfield 64, 3) := by decide +kernel
theorem dX8_take_31 : decode cX8_take 31 = .ok (.return_, 1) := by decide +kernel
set_option maxRecDepth 20000 in
theorem ggX8_put_X8_take : GoodIn wsX8_put wsX8_take := goodIn_r _ [8, 3, 9, 10, 11, 12, 13, 14, 15, 16, 17, 18, 19, 20, 21, 22, 23, 24, 25, 26, 27, 28, 29, 30, 31, 32, 33, 34, 35] (by decide +kernel) (by decide +kernel)
set_option maxRecDepth 20000 in
theorem gX8_put_X8_take : GoodIn wsX8_put (wsV RX8 68 RX8 yX8_take wsX8_take) := goodIn_app (goodIn_of _ (by decide +kernel)) ggX8_put_X8_take
theorem dX8_put_0 : decode cX8_put 0 = .ok (.aload_n 0, 1) := by decide +kernel
theorem dX8_put_1 : decode cX8_put 1 = .ok (.iconst 0, 1) := by decide +kernel
theorem dX8_put_2 : decode cX8_put 2 = .ok (.putfield 60, 3) := by decide +kernel
theorem dX8_put_5 : decode cX8_put 5 = .ok (.iload_n 1, 1) := by decide +kernel
theorem dX8_put_6 : decode cX8_put 6 = .ok (.ifCond .lt 9, 3) := by decide +kernel
theorem dX8_put_9 : decode cX8_put 9 = .ok (.iload_n 1, 1) := by decide +kernel
theorem dX8_put_10 : decode cX8_put 10 = .ok (.bipush 8, 2) := by decide +kernel
theorem dX8_put_12 : decode cX8_put 12 = .ok (.if_icmp .le 5, 3) := by decide +kernel
theorem dX8_put_15 : decode cX8_put 15 = .ok (.iconst (-1), 1) := by decide +kernel
theorem dX8_put_16 : decode cX8_put 16 = .ok (.ireturn, 1) := by decide +kernel
theorem dX8_put_17 : decode cX8_put 17 = .ok (.iconst 0, 1) := by decide +kernel
theorem dX8_put_18 : decode cX8_put 18 = .ok (.istore 6, 2) := by decide +kernel
theorem dX8_put_20 : decode cX8_put 20 = .ok (.iload 6, 2) := by decide +kernel
theorem dX8_put_22 : decode cX8_put 22 = .ok (.iload_n 1, 1) := by decide +kernel
theorem dX8_put_23 : decode cX8_put 23 = .ok (.if_icmp .ge 69, 3) := by decide +kernel
theorem dX8_put_26 : decode cX8_put 26 = .ok (.iload 6, 2) := by decide +kernel
theorem dX8_put_28 : decode cX8_put 28 = .ok (.iconst 2, 1) := by decide +kernel
theorem dX8_put_29 : decode cX8_put 29 = .ok (.if_icmp .ge 7, 3) := by decide +kernel
theorem dX8_put_32 : decode cX8_put 32 = .ok (.iload_n 2, 1) := by decide +kernel
theorem dX8_put_33 : decode cX8_put 33 = .ok (.goto 27, 3) := by decide +kernel
theorem dX8_put_36 : decode cX8_put 36 = .ok (.iload 6, 2) := by decide +kernel
theorem dX8_put_38 : decode cX8_put 38 = .ok (.iconst 4, 1) := by decide +kernel
theorem dX8_put_39 : decode cX8_put 39 = .ok (.if_icmp .ge 7, 3) := by decide +kernel
theorem dX8_put_42 : decode cX8_put 42 = .ok (.iload_n 3, 1) := by decide +kernel
theorem dX8_put_43 : decode cX8_put 43 = .ok (.goto 17, 3) := by decide +kernel
theorem dX8_put_46 : decode cX8_put 46 = .ok (.iload 6, 2) := by decide +kernel
theorem dX8_put_48 : decode cX8_put 48 = .ok (.bipush 6, 2) := by decide +kernel
theorem dX8_put_50 : decode cX8_put 50 = .ok (.if_icmp .ge 8, 3) := by decide +kernel
theorem dX8_put_53 : decode cX8_put 53 = .ok (.iload 4, 2) := by decide +kernel
theorem dX8_put_55 : decode cX8_put 55 = .ok (.goto 5, 3) := by decide +kernel
theorem dX8_put_58 : decode cX8_put 58 = .ok (.iload 5, 2) := by decide +kernel
theorem dX8_put_60 : decode cX8_put 60 = .ok (.istore 7, 2) := by decide +kernel
theorem dX8_put_62 : decode cX8_put 62 = .ok (.aload_n 0, 1) := by decide +kernel
theorem dX8_put_63 : decode cX8_put 63 = .ok (.iload 6, 2) := by decide +kernel
theorem dX8_put_65 : decode cX8_put 65 = .ok (.iconst 2, 1) := by decide +kernel
theorem dX8_put_66 : decode cX8_put 66 = .ok (.irem, 1) := by decide +kernel
theorem dX8_put_67 : decode cX8_put 67 = .ok (.ifCond .ne 11, 3) := by decide +kernel
theorem dX8_put_70 : decode cX8_put 70 = .ok (.iload 7, 2) := by decide +kernel
theorem dX8_put_72 : decode cX8_put 72 = .ok (.bipush 16, 2) := by decide +kernel
theorem dX8_put_74 : decode cX8_put 74 = .ok (.iushr, 1) := by decide +kernel
theorem dX8_put_75 : decode cX8_put 75 = .ok (.goto 8, 3) := by decide +kernel
theorem dX8_put_78 : decode cX8_put 78 = .ok (.iload 7, 2) := by decide +kernel
theorem dX8_put_80 : decode cX8_put 80 = .ok (.ldc 67, 2) := by decide +kernel
theorem dX8_put_82 : decode cX8_put 82 = .ok (.iand, 1) := by decide +kernel
theorem dX8_put_83 : decode cX8_put 83 = .ok (.invokevirtual 68, 3) := by decide +kernel
theorem dX8_put_86 : decode cX8_put 86 = .ok (.iinc 6 1, 3) := by decide +kernel
theorem dX8_put_89 : decode cX8_put 89 = .ok (.goto (-69), 3) := by decide +kernel
theorem dX8_put_92 : decode cX8_put 92 = .ok (.aload_n 0, 1) := by decide +kernel
theorem dX8_put_93 : decode cX8_put 93 = .ok (.getfield 64, 3) := by decide +kernel
theorem dX8_put_96 : decode cX8_put 96 = .ok (.ireturn, 1) := by decide +kernel
theorem dX8_clear_0 : decode cX8_clear 0 = .ok (.aload_n 0, 1) := by decide +kernel
theorem dX8_clear_1 : decode cX8_clear 1 = .ok (.iconst 0, 1) := by decide +kernel
theorem dX8_clear_2 : decode cX8_clear 2 = .ok (.putfield 60, 3) := by decide +kernel
theorem dX8_clear_5 : decode cX8_clear 5 = .ok (.aload_n 0, 1) := by decide +kernel
theorem dX8_clear_6 : decode cX8_clear 6 = .ok (.iconst 0, 1) := by decide +kernel
theorem dX8_clear_7 : decode cX8_clear 7 = .ok (.putfield 64, 3) := by decide +kernel
theorem dX8_clear_10 : decode cX8_clear 10 = .ok (.return_, 1) := by decide +kernel
theorem dX8_at_0 : decode cX8_at 0 = .ok (.aload_n 0, 1) := by decide +kernel
theorem dX8_at_1 : decode cX8_at 1 = .ok (.iconst 0, 1) := by decide +kernel
theorem dX8_at_2 : decode cX8_at 2 = .ok (.putfield 60, 3) := by decide +kernel
theorem dX8_at_5 : decode cX8_at 5 = .ok (.iload_n 1, 1) := by decide +kernel
theorem dX8_at_6 : decode cX8_at 6 = .ok (.ifCond .lt 11, 3) := by decide +kernel
theorem dX8_at_9 : decode cX8_at 9 = .ok (.iload_n 1, 1) := by decide +kernel
theorem dX8_at_10 : decode cX8_at 10 = .ok (.aload_n 0, 1) := by decide +kernel
theorem dX8_at_11 : decode cX8_at 11 = .ok (.getfield 64, 3) := by decide +kernel
theorem dX8_at_14 : decode cX8_at 14 = .ok (.if_icmp .lt 7, 3) := by decide +kernel
theorem dX8_at_17 : decode cX8_at 17 = .ok (.iconst (-1), 1) := by decide +kernel
theorem dX8_at_18 : decode cX8_at 18 = .ok (.goto 9, 3) := by decide +kernel
theorem dX8_at_21 : decode cX8_at 21 = .ok (.aload_n 0, 1) := by decide +kernel
theorem dX8_at_22 : decode cX8_at 22 = .ok (.getfield 7, 3) := by decide +kernel
theorem dX8_at_25 : decode cX8_at 25 = .ok (.iload_n 1, 1) := by decide +kernel
theorem dX8_at_26 : decode cX8_at 26 = .ok (.iaload, 1) := by decide +kernel
theorem dX8_at_27 : decode cX8_at 27 = .ok (.ireturn, 1) := by decide +kernel
theorem dX8_look_0 : decode cX8_look 0 = .ok (.iload_n 1, 1) := by decide +kernel
theorem dX8_look_1 : decode cX8_look 1 = .ok (.aload_n 0, 1) := by decide +kernel
theorem dX8_look_2 : decode cX8_look 2 = .ok (.getfield 64, 3) := by decide +kernel
theorem dX8_look_5 : decode cX8_look 5 = .ok (.if_icmp .ge 12, 3) := by decide +kernel
theorem dX8_look_8 : decode cX8_look 8 = .ok (.aload_n 0, 1) := by decide +kernel
theorem dX8_look_9 : decode cX8_look 9 = .ok (.getfield 7, 3) := by decide +kernel
theorem dX8_look_12 : decode cX8_look 12 = .ok (.iload_n 1, 1) := by decide +kernel
theorem dX8_look_13 : decode cX8_look 13 = .ok (.iaload, 1) := by decide +kernel
theorem dX8_look_14 : decode cX8_look 14 = .ok (.goto 4, 3) := by decide +kernel
theorem dX8_look_17 : decode cX8_look 17 = .ok (.iconst (-1), 1) := by decide +kernel
theorem dX8_look_18 : decode cX8_look 18 = .ok (.ireturn, 1) := by decide +kernel
theorem dX8_isPlain_0 : decode cX8_isPlain 0 = .ok (.iload_n 0, 1) := by decide +kernel
theorem dX8_isPlain_1 : decode cX8_isPlain 1 = .ok (.bipush 65, 2) := by decide +kernel
theorem dX8_isPlain_3 : decode cX8_isPlain 3 = .ok (.if_icmp .lt 9, 3) := by decide +kernel
theorem dX8_isPlain_6 : decode cX8_isPlain 6 = .ok (.iload_n 0, 1) := by decide +kernel
theorem dX8_isPlain_7 : decode cX8_isPlain 7 = .ok (.bipush 90, 2) := by decide +kernel
theorem dX8_isPlain_9 : decode cX8_isPlain 9 = .ok (.if_icmp .le 15, 3) := by decide +kernel
theorem dX8_isPlain_12 : decode cX8_isPlain 12 = .ok (.iload_n 0, 1) := by decide +kernel
theorem dX8_isPlain_13 : decode cX8_isPlain 13 = .ok (.bipush 97, 2) := by decide +kernel
theorem dX8_isPlain_15 : decode cX8_isPlain 15 = .ok (.if_icmp .lt 13, 3) := by decide +kernel
theorem dX8_isPlain_18 : decode cX8_isPlain 18 = .ok (.iload_n 0, 1) := by decide +kernel
theorem dX8_isPlain_19 : decode cX8_isPlain 19 = .ok (.bipush 122, 2) := by decide +kernel
theorem dX8_isPlain_21 : decode cX8_isPlain 21 = .ok (.if_icmp .gt 7, 3) := by decide +kernel
theorem dX8_isPlain_24 : decode cX8_isPlain 24 = .ok (.iconst 1, 1) := by decide +kernel
theorem dX8_isPlain_25 : decode cX8_isPlain 25 = .ok (.goto 4, 3) := by decide +kernel
theorem dX8_isPlain_28 : decode cX8_isPlain 28 = .ok (.iconst 0, 1) := by decide +kernel
theorem dX8_isPlain_29 : decode cX8_isPlain 29 = .ok (.ireturn, 1) := by decide +kernel
set_option maxRecDepth 20000 in
theorem ggX8_isLetter_X8_isPlain : GoodIn wsX8_isLetter wsX8_isPlain := goodIn_r _ [4] (by decide +kernel) (by decide +kernel)
set_option maxRecDepth 20000 in
theorem gX8_isLetter_X8_isPlain : GoodIn wsX8_isLetter (va_wsS RX8 72 yX8_isPlain wsX8_isPlain) := goodIn_app (goodIn_of _ (by decide +kernel)) ggX8_isLetter_X8_isPlain
theorem dX8_isLetter_0 : decode cX8_isLetter 0 = .ok (.iload_n 0, 1) := by decide +kernel
theorem dX8_isLetter_1 : decode cX8_isLetter 1 = .ok (.invokestatic 72, 3) := by decide +kernel
theorem dX8_isLetter_4 : decode cX8_isLetter 4 = .ok (.ifCond .eq 5, 3) := by decide +kernel
theorem dX8_isLetter_7 : decode cX8_isLetter 7 = .ok (.iconst 1, 1) := by decide +kernel
theorem dX8_isLetter_8 : decode cX8_isLetter 8 = .ok (.ireturn, 1) := by decide +kernel
theorem dX8_isLetter_9 : decode cX8_isLetter 9 = .ok (.iload_n 0, 1) := by decide +kernel
theorem dX8_isLetter_10 : decode cX8_isLetter 10 = .ok (.sipush 192, 3) := by decide +kernel
theorem dX8_isLetter_13 : decode cX8_isLetter 13 = .ok (.if_icmp .lt 30, 3) := by decide +kernel
theorem dX8_isLetter_16 : decode cX8_isLetter 16 = .ok (.iload_n 0, 1) := by decide +kernel
theorem dX8_isLetter_17 : decode cX8_isLetter 17 = .ok (.sipush 687, 3) := by decide +kernel
theorem dX8_isLetter_20 : decode cX8_isLetter 20 = .ok (.if_icmp .gt 23, 3) := by decide +kernel
theorem dX8_isLetter_23 : decode cX8_isLetter 23 = .ok (.iload_n 0, 1) := by decide +kernel
theorem dX8_isLetter_24 : decode cX8_isLetter 24 = .ok (.sipush 215, 3) := by decide +kernel
theorem dX8_isLetter_27 : decode cX8_isLetter 27 = .ok (.if_icmp .eq 14, 3) := by decide +kernel
theorem dX8_isLetter_30 : decode cX8_isLetter 30 = .ok (.iload_n 0, 1) := by decide +kernel
theorem dX8_isLetter_31 : decode cX8_isLetter 31 = .ok (.sipush 247, 3) := by decide +kernel
theorem dX8_isLetter_34 : decode cX8_isLetter 34 = .ok (.if_icmp .eq 7, 3) := by decide +kernel
theorem dX8_isLetter_37 : decode cX8_isLetter 37 = .ok (.iconst 1, 1) := by decide +kernel
theorem dX8_isLetter_38 : decode cX8_isLetter 38 = .ok (.goto 4, 3) := by decide +kernel
theorem dX8_isLetter_41 : decode cX8_isLetter 41 = .ok (.iconst 0, 1) := by decide +kernel
theorem dX8_isLetter_42 : decode cX8_isLetter 42 = .ok (.ireturn, 1) := by decide +kernel
theorem dX8_isLetter_43 : decode cX8_isLetter 43 = .ok (.iload_n 0, 1) := by decide +kernel
theorem dX8_isLetter_44 : decode cX8_isLetter 44 = .ok (.sipush 880, 3) := by decide +kernel
theorem dX8_isLetter_47 : decode cX8_isLetter 47 = .ok (.if_icmp .lt 42, 3) := by decide +kernel
theorem dX8_isLetter_50 : decode cX8_isLetter 50 = .ok (.iload_n 0, 1) := by decide +kernel
theorem dX8_isLetter_51 : decode cX8_isLetter 51 = .ok (.sipush 1423, 3) := by decide +kernel
theorem dX8_isLetter_54 : decode cX8_isLetter 54 = .ok (.if_icmp .gt 35, 3) := by decide +kernel
theorem dX8_isLetter_57 : decode cX8_isLetter 57 = .ok (.iload_n 0, 1) := by decide +kernel
theorem dX8_isLetter_58 : decode cX8_isLetter 58 = .ok (.sipush 894, 3) := by decide +kernel
theorem dX8_isLetter_61 : decode cX8_isLetter 61 = .ok (.if_icmp .eq 28, 3) := by decide +kernel
theorem dX8_isLetter_64 : decode cX8_isLetter 64 = .ok (.iload_n 0, 1) := by decide +kernel
theorem dX8_isLetter_65 : decode cX8_isLetter 65 = .ok (.sipush 903, 3) := by decide +kernel
theorem dX8_isLetter_68 : decode cX8_isLetter 68 = .ok (.if_icmp .eq 21, 3) := by decide +kernel
theorem dX8_isLetter_71 : decode cX8_isLetter 71 = .ok (.iload_n 0, 1) := by decide +kernel
theorem dX8_isLetter_72 : decode cX8_isLetter 72 = .ok (.sipush 1154, 3) := by decide +kernel
theorem dX8_isLetter_75 : decode cX8_isLetter 75 = .ok (.if_icmp .lt 10, 3) := by decide +kernel
theorem dX8_isLetter_78 : decode cX8_isLetter 78 = .ok (.iload_n 0, 1) := by decide +kernel
theorem dX8_isLetter_79 : decode cX8_isLetter 79 = .ok (.sipush 1161, 3) := by decide +kernel
theorem dX8_isLetter_82 : decode cX8_isLetter 82 = .ok (.if_icmp .le 7, 3) := by decide +kernel
theorem dX8_isLetter_85 : decode cX8_isLetter 85 = .ok (.iconst 1, 1) := by decide +kernel
theorem dX8_isLetter_86 : decode cX8_isLetter 86 = .ok (.goto 4, 3) := by decide +kernel
theorem dX8_isLetter_89 : decode cX8_isLetter 89 = .ok (.iconst 0, 1) := by decide +kernel
theorem dX8_isLetter_90 : decode cX8_isLetter 90 = .ok (.ireturn, 1) := by decide +kernel
theorem dX8_isDigit_0 : decode cX8_isDigit 0 = .ok (.iload_n 0, 1) := by decide +kernel
theorem dX8_isDigit_1 : decode cX8_isDigit 1 = .ok (.bipush 48, 2) := by decide +kernel
theorem dX8_isDigit_3 : decode cX8_isDigit 3 = .ok (.if_icmp .lt 13, 3) := by decide +kernel
theorem dX8_isDigit_6 : decode cX8_isDigit 6 = .ok (.iload_n 0, 1) := by decide +kernel
theorem dX8_isDigit_7 : decode cX8_isDigit 7 = .ok (.bipush 57, 2) := by decide +kernel
theorem dX8_isDigit_9 : decode cX8_isDigit 9 = .ok (.if_icmp .gt 7, 3) := by decide +kernel
theorem dX8_isDigit_12 : decode cX8_isDigit 12 = .ok (.iconst 1, 1) := by decide +kernel
theorem dX8_isDigit_13 : decode cX8_isDigit 13 = .ok (.goto 4, 3) := by decide +kernel
theorem dX8_isDigit_16 : decode cX8_isDigit 16 = .ok (.iconst 0, 1) := by decide +kernel
theorem dX8_isDigit_17 : decode cX8_isDigit 17 = .ok (.ireturn, 1) := by decide +kernel
set_option maxRecDepth 20000 in
theorem ggX8_isWord_X8_isLetter : GoodIn wsX8_isWord wsX8_isLetter := goodIn_r _ [4, 5, 6, 3, 7] (by decide +kernel) (by decide +kernel)
set_option maxRecDepth 20000 in
theorem gX8_isWord_X8_isLetter : GoodIn wsX8_isWord (va_wsS RX8 76 yX8_isLetter wsX8_isLetter) := goodIn_app (goodIn_of _ (by decide +kernel)) ggX8_isWord_X8_isLetter
set_option maxRecDepth 20000 in
theorem ggX8_isWord_X8_isDigit : GoodIn wsX8_isWord wsX8_isDigit := goodIn_r _ [10] (by decide +kernel) (by decide +kernel)
set_option maxRecDepth 20000 in
theorem gX8_isWord_X8_isDigit : GoodIn wsX8_isWord (va_wsS RX8 79 yX8_isDigit wsX8_isDigit) := goodIn_app (goodIn_of _ (by decide +kernel)) ggX8_isWord_X8_isDigit
theorem dX8_isWord_0 : decode cX8_isWord 0 = .ok (.iload_n 0, 1) := by decide +kernel
theorem dX8_isWord_1 : decode cX8_isWord 1 = .ok (.invokestatic 76, 3) := by decide +kernel
theorem dX8_isWord_4 : decode cX8_isWord 4 = .ok (.ifCond .ne 10, 3) := by decide +kernel
theorem dX8_isWord_7 : decode cX8_isWord 7 = .ok (.iload_n 0, 1) := by decide +kernel
theorem dX8_isWord_8 : decode cX8_isWord 8 = .ok (.invokestatic 79, 3) := by decide +kernel
theorem dX8_isWord_11 : decode cX8_isWord 11 = .ok (.ifCond .eq 7, 3) := by decide +kernel
theorem dX8_isWord_14 : decode cX8_isWord 14 = .ok (.iconst 1, 1) := by decide +kernel
theorem dX8_isWord_15 : decode cX8_isWord 15 = .ok (.goto 4, 3) := by decide +kernel
theorem dX8_isWord_18 : decode cX8_isWord 18 = .ok (.iconst 0, 1) := by decide +kernel
theorem dX8_isWord_19 : decode cX8_isWord 19 = .ok (.ireturn, 1) := by decide +kernel
theorem dX8_isBlank_0 : decode cX8_isBlank 0 = .ok (.iload_n 0, 1) := by decide +kernel
theorem dX8_isBlank_1 : decode cX8_isBlank 1 = .ok (.bipush 9, 2) := by decide +kernel
theorem dX8_isBlank_3 : decode cX8_isBlank 3 = .ok (.if_icmp .eq 21, 3) := by decide +kernel
theorem dX8_isBlank_6 : decode cX8_isBlank 6 = .ok (.iload_n 0, 1) := by decide +kernel
theorem dX8_isBlank_7 : decode cX8_isBlank 7 = .ok (.bipush 10, 2) := by decide +kernel
theorem dX8_isBlank_9 : decode cX8_isBlank 9 = .ok (.if_icmp .eq 15, 3) := by decide +kernel
theorem dX8_isBlank_12 : decode cX8_isBlank 12 = .ok (.iload_n 0, 1) := by decide +kernel
theorem dX8_isBlank_13 : decode cX8_isBlank 13 = .ok (.bipush 13, 2) := by decide +kernel
theorem dX8_isBlank_15 : decode cX8_isBlank 15 = .ok (.if_icmp .eq 9, 3) := by decide +kernel
theorem dX8_isBlank_18 : decode cX8_isBlank 18 = .ok (.iload_n 0, 1) := by decide +kernel
theorem dX8_isBlank_19 : decode cX8_isBlank 19 = .ok (.bipush 32, 2) := by decide +kernel
theorem dX8_isBlank_21 : decode cX8_isBlank 21 = .ok (.if_icmp .ne 7, 3) := by decide +kernel
theorem dX8_isBlank_24 : decode cX8_isBlank 24 = .ok (.iconst 1, 1) := by decide +kernel
theorem dX8_isBlank_25 : decode cX8_isBlank 25 = .ok (.goto 4, 3) := by decide +kernel
theorem dX8_isBlank_28 : decode cX8_isBlank 28 = .ok (.iconst 0, 1) := by decide +kernel
theorem dX8_isBlank_29 : decode cX8_isBlank 29 = .ok (.ireturn, 1) := by decide +kernel
theorem dX8_within_0 : decode cX8_within 0 = .ok (.iload_n 0, 1) := by decide +kernel
theorem dX8_within_1 : decode cX8_within 1 = .ok (.iload_n 1, 1) := by decide +kernel
theorem dX8_within_2 : decode cX8_within 2 = .ok (.if_icmp .lt 12, 3) := by decide +kernel
theorem dX8_within_5 : decode cX8_within 5 = .ok (.iload_n 0, 1) := by decide +kernel
theorem dX8_within_6 : decode cX8_within 6 = .ok (.iload_n 2, 1) := by decide +kernel
theorem dX8_within_7 : decode cX8_within 7 = .ok (.if_icmp .gt 7, 3) := by decide +kernel
theorem dX8_within_10 : decode cX8_within 10 = .ok (.iconst 1, 1) := by decide +kernel
theorem dX8_within_11 : decode cX8_within 11 = .ok (.goto 4, 3) := by decide +kernel
theorem dX8_within_14 : decode cX8_within 14 = .ok (.iconst 0, 1) := by decide +kernel
theorem dX8_within_15 : decode cX8_within 15 = .ok (.ireturn, 1) := by decide +kernel
set_option maxRecDepth 20000 in
theorem ggX8_small_X8_within : GoodIn wsX8_small wsX8_within := goodIn_r _ [4] (by decide +kernel) (by decide +kernel)
set_option maxRecDepth 20000 in
theorem gX8_small_X8_within : GoodIn wsX8_small (va_wsS RX8 82 yX8_within wsX8_within) := goodIn_app (goodIn_of _ (by decide +kernel)) ggX8_small_X8_within
theorem dX8_small_0 : decode cX8_small 0 = .ok (.iload_n 0, 1) := by decide +kernel
theorem dX8_small_1 : decode cX8_small 1 = .ok (.bipush 65, 2) := by decide +kernel
theorem dX8_small_3 : decode cX8_small 3 = .ok (.bipush 90, 2) := by decide +kernel
theorem dX8_small_5 : decode cX8_small 5 = .ok (.invokestatic 82, 3) := by decide +kernel
theorem dX8_small_8 : decode cX8_small 8 = .ok (.ifCond .ne 56, 3) := by decide +kernel
theorem dX8_small_11 : decode cX8_small 11 = .ok (.iload_n 0, 1) := by decide +kernel
theorem dX8_small_12 : decode cX8_small 12 = .ok (.sipush 192, 3) := by decide +kernel
theorem dX8_small_15 : decode cX8_small 15 = .ok (.sipush 222, 3) := by decide +kernel
theorem dX8_small_18 : decode cX8_small 18 = .ok (.invokestatic 82, 3) := by decide +kernel
theorem dX8_small_21 : decode cX8_small 21 = .ok (.ifCond .eq 10, 3) := by decide +kernel
theorem dX8_small_24 : decode cX8_small 24 = .ok (.iload_n 0, 1) := by decide +kernel
theorem dX8_small_25 : decode cX8_small 25 = .ok (.sipush 215, 3) := by decide +kernel
theorem dX8_small_28 : decode cX8_small 28 = .ok (.if_icmp .ne 36, 3) := by decide +kernel
theorem dX8_small_31 : decode cX8_small 31 = .ok (.iload_n 0, 1) := by decide +kernel
theorem dX8_small_32 : decode cX8_small 32 = .ok (.sipush 913, 3) := by decide +kernel
theorem dX8_small_35 : decode cX8_small 35 = .ok (.sipush 939, 3) := by decide +kernel
theorem dX8_small_38 : decode cX8_small 38 = .ok (.invokestatic 82, 3) := by decide +kernel
theorem dX8_small_41 : decode cX8_small 41 = .ok (.ifCond .eq 10, 3) := by decide +kernel
theorem dX8_small_44 : decode cX8_small 44 = .ok (.iload_n 0, 1) := by decide +kernel
theorem dX8_small_45 : decode cX8_small 45 = .ok (.sipush 930, 3) := by decide +kernel
theorem dX8_small_48 : decode cX8_small 48 = .ok (.if_icmp .ne 16, 3) := by decide +kernel
theorem dX8_small_51 : decode cX8_small 51 = .ok (.iload_n 0, 1) := by decide +kernel
theorem dX8_small_52 : decode cX8_small 52 = .ok (.sipush 1040, 3) := by decide +kernel
theorem dX8_small_55 : decode cX8_small 55 = .ok (.sipush 1071, 3) := by decide +kernel
theorem dX8_small_58 : decode cX8_small 58 = .ok (.invokestatic 82, 3) := by decide +kernel
theorem dX8_small_61 : decode cX8_small 61 = .ok (.ifCond .eq 8, 3) := by decide +kernel
theorem dX8_small_64 : decode cX8_small 64 = .ok (.iload_n 0, 1) := by decide +kernel
theorem dX8_small_65 : decode cX8_small 65 = .ok (.bipush 32, 2) := by decide +kernel
theorem dX8_small_67 : decode cX8_small 67 = .ok (.iadd, 1) := by decide +kernel
theorem dX8_small_68 : decode cX8_small 68 = .ok (.ireturn, 1) := by decide +kernel
theorem dX8_small_69 : decode cX8_small 69 = .ok (.iload_n 0, 1) := by decide +kernel
theorem dX8_small_70 : decode cX8_small 70 = .ok (.sipush 1024, 3) := by decide +kernel
theorem dX8_small_73 : decode cX8_small 73 = .ok (.sipush 1039, 3) := by decide +kernel
theorem dX8_small_76 : decode cX8_small 76 = .ok (.invokestatic 82, 3) := by decide +kernel
theorem dX8_small_79 : decode cX8_small 79 = .ok (.ifCond .eq 8, 3) := by decide +kernel
theorem dX8_small_82 : decode cX8_small 82 = .ok (.iload_n 0, 1) := by decide +kernel
theorem dX8_small_83 : decode cX8_small 83 = .ok (.bipush 80, 2) := by decide +kernel
theorem dX8_small_85 : decode cX8_small 85 = .ok (.iadd, 1) := by decide +kernel
theorem dX8_small_86 : decode cX8_small 86 = .ok (.ireturn, 1) := by decide +kernel
theorem dX8_small_87 : decode cX8_small 87 = .ok (.iload_n 0, 1) := by decide +kernel
theorem dX8_small_88 : decode cX8_small 88 = .ok (.sipush 256, 3) := by decide +kernel
theorem dX8_small_91 : decode cX8_small 91 = .ok (.sipush 311, 3) := by decide +kernel
theorem dX8_small_94 : decode cX8_small 94 = .ok (.invokestatic 82, 3) := by decide +kernel
theorem dX8_small_97 : decode cX8_small 97 = .ok (.ifCond .ne 42, 3) := by decide +kernel
theorem dX8_small_100 : decode cX8_small 100 = .ok (.iload_n 0, 1) := by decide +kernel
theorem dX8_small_101 : decode cX8_small 101 = .ok (.sipush 330, 3) := by decide +kernel
theorem dX8_small_104 : decode cX8_small 104 = .ok (.sipush 375, 3) := by decide +kernel
theorem dX8_small_107 : decode cX8_small 107 = .ok (.invokestatic 82, 3) := by decide +kernel
theorem dX8_small_110 : decode cX8_small 110 = .ok (.ifCond .ne 29, 3) := by decide +kernel
theorem dX8_small_113 : decode cX8_small 113 = .ok (.iload_n 0, 1) := by decide +kernel
theorem dX8_small_114 : decode cX8_small 114 = .ok (.sipush 1120, 3) := by decide +kernel
theorem dX8_small_117 : decode cX8_small 117 = .ok (.sipush 1153, 3) := by decide +kernel
theorem dX8_small_120 : decode cX8_small 120 = .ok (.invokestatic 82, 3) := by decide +kernel
theorem dX8_small_123 : decode cX8_small 123 = .ok (.ifCond .ne 16, 3) := by decide +kernel
theorem dX8_small_126 : decode cX8_small 126 = .ok (.iload_n 0, 1) := by decide +kernel
theorem dX8_small_127 : decode cX8_small 127 = .ok (.sipush 1162, 3) := by decide +kernel
theorem dX8_small_130 : decode cX8_small 130 = .ok (.sipush 1215, 3) := by decide +kernel
theorem dX8_small_133 : decode cX8_small 133 = .ok (.invokestatic 82, 3) := by decide +kernel
theorem dX8_small_136 : decode cX8_small 136 = .ok (.ifCond .eq 17, 3) := by decide +kernel
theorem dX8_small_139 : decode cX8_small 139 = .ok (.iload_n 0, 1) := by decide +kernel
theorem dX8_small_140 : decode cX8_small 140 = .ok (.iconst 2, 1) := by decide +kernel
theorem dX8_small_141 : decode cX8_small 141 = .ok (.irem, 1) := by decide +kernel
theorem dX8_small_142 : decode cX8_small 142 = .ok (.ifCond .ne 9, 3) := by decide +kernel
theorem dX8_small_145 : decode cX8_small 145 = .ok (.iload_n 0, 1) := by decide +kernel
theorem dX8_small_146 : decode cX8_small 146 = .ok (.iconst 1, 1) := by decide +kernel
theorem dX8_small_147 : decode cX8_small 147 = .ok (.iadd, 1) := by decide +kernel
theorem dX8_small_148 : decode cX8_small 148 = .ok (.goto 4, 3) := by decide +kernel
theorem dX8_small_151 : decode cX8_small 151 = .ok (.iload_n 0, 1) := by decide +kernel
theorem dX8_small_152 : decode cX8_small 152 = .ok (.ireturn, 1) := by decide +kernel
theorem dX8_small_153 : decode cX8_small 153 = .ok (.iload_n 0, 1) := by decide +kernel
theorem dX8_small_154 : decode cX8_small 154 = .ok (.sipush 313, 3) := by decide +kernel
theorem dX8_small_157 : decode cX8_small 157 = .ok (.sipush 328, 3) := by decide +kernel
theorem dX8_small_160 : decode cX8_small 160 = .ok (.invokestatic 82, 3) := by decide +kernel
theorem dX8_small_163 : decode cX8_small 163 = .ok (.ifCond .ne 16, 3) := by decide +kernel
theorem dX8_small_166 : decode cX8_small 166 = .ok (.iload_n 0, 1) := by decide +kernel
theorem dX8_small_167 : decode cX8_small 167 = .ok (.sipush 377, 3) := by decide +kernel
theorem dX8_small_170 : decode cX8_small 170 = .ok (.sipush 382, 3) := by decide +kernel
theorem dX8_small_173 : decode cX8_small 173 = .ok (.invokestatic 82, 3) := by decide +kernel
theorem dX8_small_176 : decode cX8_small 176 = .ok (.ifCond .eq 18, 3) := by decide +kernel
theorem dX8_small_179 : decode cX8_small 179 = .ok (.iload_n 0, 1) := by decide +kernel
theorem dX8_small_180 : decode cX8_small 180 = .ok (.iconst 2, 1) := by decide +kernel
theorem dX8_small_181 : decode cX8_small 181 = .ok (.irem, 1) := by decide +kernel
theorem dX8_small_182 : decode cX8_small 182 = .ok (.iconst 1, 1) := by decide +kernel
theorem dX8_small_183 : decode cX8_small 183 = .ok (.if_icmp .ne 9, 3) := by decide +kernel
theorem dX8_small_186 : decode cX8_small 186 = .ok (.iload_n 0, 1) := by decide +kernel
theorem dX8_small_187 : decode cX8_small 187 = .ok (.iconst 1, 1) := by decide +kernel
theorem dX8_small_188 : decode cX8_small 188 = .ok (.iadd, 1) := by decide +kernel
theorem dX8_small_189 : decode cX8_small 189 = .ok (.goto 4, 3) := by decide +kernel
theorem dX8_small_192 : decode cX8_small 192 = .ok (.iload_n 0, 1) := by decide +kernel
theorem dX8_small_193 : decode cX8_small 193 = .ok (.ireturn, 1) := by decide +kernel
theorem dX8_small_194 : decode cX8_small 194 = .ok (.iload_n 0, 1) := by decide +kernel
theorem dX8_small_195 : decode cX8_small 195 = .ok (.sipush 376, 3) := by decide +kernel
theorem dX8_small_198 : decode cX8_small 198 = .ok (.if_icmp .ne 7, 3) := by decide +kernel
theorem dX8_small_201 : decode cX8_small 201 = .ok (.sipush 255, 3) := by decide +kernel
theorem dX8_small_204 : decode cX8_small 204 = .ok (.ireturn, 1) := by decide +kernel
theorem dX8_small_205 : decode cX8_small 205 = .ok (.iload_n 0, 1) := by decide +kernel
theorem dX8_small_206 : decode cX8_small 206 = .ok (.sipush 902, 3) := by decide +kernel
theorem dX8_small_209 : decode cX8_small 209 = .ok (.if_icmp .ne 7, 3) := by decide +kernel
theorem dX8_small_212 : decode cX8_small 212 = .ok (.sipush 940, 3) := by decide +kernel
theorem dX8_small_215 : decode cX8_small 215 = .ok (.ireturn, 1) := by decide +kernel
theorem dX8_small_216 : decode cX8_small 216 = .ok (.iload_n 0, 1) := by decide +kernel
theorem dX8_small_217 : decode cX8_small 217 = .ok (.sipush 904, 3) := by decide +kernel
theorem dX8_small_220 : decode cX8_small 220 = .ok (.sipush 906, 3) := by decide +kernel
theorem dX8_small_223 : decode cX8_small 223 = .ok (.invokestatic 82, 3) := by decide +kernel
theorem dX8_small_226 : decode cX8_small 226 = .ok (.ifCond .eq 8, 3) := by decide +kernel
theorem dX8_small_229 : decode cX8_small 229 = .ok (.iload_n 0, 1) := by decide +kernel
theorem dX8_small_230 : decode cX8_small 230 = .ok (.bipush 37, 2) := by decide +kernel
theorem dX8_small_232 : decode cX8_small 232 = .ok (.iadd, 1) := by decide +kernel
theorem dX8_small_233 : decode cX8_small 233 = .ok (.ireturn, 1) := by decide +kernel
theorem dX8_small_234 : decode cX8_small 234 = .ok (.iload_n 0, 1) := by decide +kernel
theorem dX8_small_235 : decode cX8_small 235 = .ok (.sipush 908, 3) := by decide +kernel
theorem dX8_small_238 : decode cX8_small 238 = .ok (.if_icmp .ne 7, 3) := by decide +kernel
theorem dX8_small_241 : decode cX8_small 241 = .ok (.sipush 972, 3) := by decide +kernel
theorem dX8_small_244 : decode cX8_small 244 = .ok (.ireturn, 1) := by decide +kernel
theorem dX8_small_245 : decode cX8_small 245 = .ok (.iload_n 0, 1) := by decide +kernel
theorem dX8_small_246 : decode cX8_small 246 = .ok (.sipush 910, 3) := by decide +kernel
theorem dX8_small_249 : decode cX8_small 249 = .ok (.if_icmp .eq 10, 3) := by decide +kernel
theorem dX8_small_252 : decode cX8_small 252 = .ok (.iload_n 0, 1) := by decide +kernel
theorem dX8_small_253 : decode cX8_small 253 = .ok (.sipush 911, 3) := by decide +kernel
theorem dX8_small_256 : decode cX8_small 256 = .ok (.if_icmp .ne 10, 3) := by decide +kernel
theorem dX8_small_259 : decode cX8_small 259 = .ok (.iload_n 0, 1) := by decide +kernel
theorem dX8_small_260 : decode cX8_small 260 = .ok (.bipush 63, 2) := by decide +kernel
theorem dX8_small_262 : decode cX8_small 262 = .ok (.iadd, 1) := by decide +kernel
theorem dX8_small_263 : decode cX8_small 263 = .ok (.goto 4, 3) := by decide +kernel
theorem dX8_small_266 : decode cX8_small 266 = .ok (.iload_n 0, 1) := by decide +kernel
theorem dX8_small_267 : decode cX8_small 267 = .ok (.ireturn, 1) := by decide +kernel
theorem dX8_write_0 : decode cX8_write 0 = .ok (.aload_n 0, 1) := by decide +kernel
theorem dX8_write_1 : decode cX8_write 1 = .ok (.getfield 13, 3) := by decide +kernel
theorem dX8_write_4 : decode cX8_write 4 = .ok (.aload_n 0, 1) := by decide +kernel
theorem dX8_write_5 : decode cX8_write 5 = .ok (.getfield 86, 3) := by decide +kernel
theorem dX8_write_8 : decode cX8_write 8 = .ok (.iload_n 1, 1) := by decide +kernel
theorem dX8_write_9 : decode cX8_write 9 = .ok (.iastore, 1) := by decide +kernel
theorem dX8_write_10 : decode cX8_write 10 = .ok (.aload_n 0, 1) := by decide +kernel
theorem dX8_write_11 : decode cX8_write 11 = .ok (.dup, 1) := by decide +kernel
theorem dX8_write_12 : decode cX8_write 12 = .ok (.getfield 86, 3) := by decide +kernel
theorem dX8_write_15 : decode cX8_write 15 = .ok (.iconst 1, 1) := by decide +kernel
theorem dX8_write_16 : decode cX8_write 16 = .ok (.iadd, 1) := by decide +kernel
theorem dX8_write_17 : decode cX8_write 17 = .ok (.putfield 86, 3) := by decide +kernel
theorem dX8_write_20 : decode cX8_write 20 = .ok (.return_, 1) := by decide +kernel
theorem dX8_behind_0 : decode cX8_behind 0 = .ok (.aload_n 0, 1) := by decide +kernel
theorem dX8_behind_1 : decode cX8_behind 1 = .ok (.getfield 86, 3) := by decide +kernel
theorem dX8_behind_4 : decode cX8_behind 4 = .ok (.ifCond .le 22, 3) := by decide +kernel
theorem dX8_behind_7 : decode cX8_behind 7 = .ok (.aload_n 0, 1) := by decide +kernel
theorem dX8_behind_8 : decode cX8_behind 8 = .ok (.getfield 13, 3) := by decide +kernel
theorem dX8_behind_11 : decode cX8_behind 11 = .ok (.aload_n 0, 1) := by decide +kernel
theorem dX8_behind_12 : decode cX8_behind 12 = .ok (.getfield 86, 3) := by decide +kernel
theorem dX8_behind_15 : decode cX8_behind 15 = .ok (.iconst 1, 1) := by decide +kernel
theorem dX8_behind_16 : decode cX8_behind 16 = .ok (.isub, 1) := by decide +kernel
theorem dX8_behind_17 : decode cX8_behind 17 = .ok (.iaload, 1) := by decide +kernel
theorem dX8_behind_18 : decode cX8_behind 18 = .ok (.iload_n 1, 1) := by decide +kernel
theorem dX8_behind_19 : decode cX8_behind 19 = .ok (.if_icmp .ne 7, 3) := by decide +kernel
theorem dX8_behind_22 : decode cX8_behind 22 = .ok (.iconst 1, 1) := by decide +kernel
theorem dX8_behind_23 : decode cX8_behind 23 = .ok (.goto 4, 3) := by decide +kernel
theorem dX8_behind_26 : decode cX8_behind 26 = .ok (.iconst 0, 1) := by decide +kernel
theorem dX8_behind_27 : decode cX8_behind 27 = .ok (.ireturn, 1) := by decide +kernel
set_option maxRecDepth 20000 in
theorem ggX8_writeBlank_X8_write : GoodIn wsX8_writeBlank wsX8_write := goodIn_r _ [7, 8, 2, 13, 14, 15, 16, 17, 18, 19, 20, 21, 22, 23, 24, 25, 26, 27, 28, 29, 30, 31, 32, 33, 34, 35, 36, 37, 38] (by decide +kernel) (by decide +kernel)
set_option maxRecDepth 20000 in
theorem gX8_writeBlank_X8_write : GoodIn wsX8_writeBlank (wsV RX8 93 RX8 yX8_write wsX8_write) := goodIn_app (goodIn_of _ (by decide +kernel)) ggX8_writeBlank_X8_write
set_option maxRecDepth 20000 in
theorem ggX8_writeBlank_X8_behind : GoodIn wsX8_writeBlank wsX8_behind := goodIn_r _ [12, 2, 8, 13, 14, 15, 16, 17, 18, 19, 20, 21, 22, 23, 24, 25, 26, 27, 28, 29, 30, 31, 32, 33, 34, 35, 36, 37, 38] (by decide +kernel) (by decide +kernel)
set_option maxRecDepth 20000 in
theorem gX8_writeBlank_X8_behind : GoodIn wsX8_writeBlank (wsV RX8 96 RX8 yX8_behind wsX8_behind) := goodIn_app (goodIn_of _ (by decide +kernel)) ggX8_writeBlank_X8_behind
theorem dX8_writeBlank_0 : decode cX8_writeBlank 0 = .ok (.aload_n 0, 1) := by decide +kernel
theorem dX8_writeBlank_1 : decode cX8_writeBlank 1 = .ok (.getfield 89, 3) := by decide +kernel
theorem dX8_writeBlank_4 : decode cX8_writeBlank 4 = .ok (.ifCond .eq 17, 3) := by decide +kernel
theorem dX8_writeBlank_7 : decode cX8_writeBlank 7 = .ok (.iload_n 1, 1) := by decide +kernel
theorem dX8_writeBlank_8 : decode cX8_writeBlank 8 = .ok (.bipush 13, 2) := by decide +kernel
theorem dX8_writeBlank_10 : decode cX8_writeBlank 10 = .ok (.if_icmp .eq 42, 3) := by decide +kernel
theorem dX8_writeBlank_13 : decode cX8_writeBlank 13 = .ok (.aload_n 0, 1) := by decide +kernel
theorem dX8_writeBlank_14 : decode cX8_writeBlank 14 = .ok (.iload_n 1, 1) := by decide +kernel
theorem dX8_writeBlank_15 : decode cX8_writeBlank 15 = .ok (.invokevirtual 93, 3) := by decide +kernel
theorem dX8_writeBlank_18 : decode cX8_writeBlank 18 = .ok (.goto 34, 3) := by decide +kernel
theorem dX8_writeBlank_21 : decode cX8_writeBlank 21 = .ok (.aload_n 0, 1) := by decide +kernel
theorem dX8_writeBlank_22 : decode cX8_writeBlank 22 = .ok (.getfield 86, 3) := by decide +kernel
theorem dX8_writeBlank_25 : decode cX8_writeBlank 25 = .ok (.ifCond .le 27, 3) := by decide +kernel
theorem dX8_writeBlank_28 : decode cX8_writeBlank 28 = .ok (.aload_n 0, 1) := by decide +kernel
theorem dX8_writeBlank_29 : decode cX8_writeBlank 29 = .ok (.bipush 32, 2) := by decide +kernel
theorem dX8_writeBlank_31 : decode cX8_writeBlank 31 = .ok (.invokevirtual 96, 3) := by decide +kernel
theorem dX8_writeBlank_34 : decode cX8_writeBlank 34 = .ok (.ifCond .ne 18, 3) := by decide +kernel
theorem dX8_writeBlank_37 : decode cX8_writeBlank 37 = .ok (.aload_n 0, 1) := by decide +kernel
theorem dX8_writeBlank_38 : decode cX8_writeBlank 38 = .ok (.bipush 10, 2) := by decide +kernel
theorem dX8_writeBlank_40 : decode cX8_writeBlank 40 = .ok (.invokevirtual 96, 3) := by decide +kernel
theorem dX8_writeBlank_43 : decode cX8_writeBlank 43 = .ok (.ifCond .ne 9, 3) := by decide +kernel
theorem dX8_writeBlank_46 : decode cX8_writeBlank 46 = .ok (.aload_n 0, 1) := by decide +kernel
theorem dX8_writeBlank_47 : decode cX8_writeBlank 47 = .ok (.bipush 32, 2) := by decide +kernel
theorem dX8_writeBlank_49 : decode cX8_writeBlank 49 = .ok (.invokevirtual 93, 3) := by decide +kernel
theorem dX8_writeBlank_52 : decode cX8_writeBlank 52 = .ok (.return_, 1) := by decide +kernel
set_option maxRecDepth 20000 in
theorem ggX8_dropSpaces_X8_behind : GoodIn wsX8_dropSpaces wsX8_behind := goodIn_r _ [6, 1, 7, 8, 9, 10, 11, 12, 13, 14, 15, 16, 17, 18, 19, 20, 21, 22, 23, 24, 25, 26, 27, 28, 29, 30, 31, 32, 33] (by decide +kernel) (by decide +kernel)
set_option maxRecDepth 20000 in
theorem gX8_dropSpaces_X8_behind : GoodIn wsX8_dropSpaces (wsV RX8 96 RX8 yX8_behind wsX8_behind) := goodIn_app (goodIn_of _ (by decide +kernel)) ggX8_dropSpaces_X8_behind
theorem dX8_dropSpaces_0 : decode cX8_dropSpaces 0 = .ok (.aload_n 0, 1) := by decide +kernel
theorem dX8_dropSpaces_1 : decode cX8_dropSpaces 1 = .ok (.bipush 32, 2) := by decide +kernel
theorem dX8_dropSpaces_3 : decode cX8_dropSpaces 3 = .ok (.invokevirtual 96, 3) := by decide +kernel
theorem dX8_dropSpaces_6 : decode cX8_dropSpaces 6 = .ok (.ifCond .eq 16, 3) := by decide +kernel
theorem dX8_dropSpaces_9 : decode cX8_dropSpaces 9 = .ok (.aload_n 0, 1) := by decide +kernel
theorem dX8_dropSpaces_10 : decode cX8_dropSpaces 10 = .ok (.dup, 1) := by decide +kernel
theorem dX8_dropSpaces_11 : decode cX8_dropSpaces 11 = .ok (.getfield 86, 3) := by decide +kernel
theorem dX8_dropSpaces_14 : decode cX8_dropSpaces 14 = .ok (.iconst 1, 1) := by decide +kernel
theorem dX8_dropSpaces_15 : decode cX8_dropSpaces 15 = .ok (.isub, 1) := by decide +kernel
theorem dX8_dropSpaces_16 : decode cX8_dropSpaces 16 = .ok (.putfield 86, 3) := by decide +kernel
theorem dX8_dropSpaces_19 : decode cX8_dropSpaces 19 = .ok (.goto (-19), 3) := by decide +kernel
theorem dX8_dropSpaces_22 : decode cX8_dropSpaces 22 = .ok (.return_, 1) := by decide +kernel
set_option maxRecDepth 20000 in
theorem ggX8_writeBreak_X8_dropSpaces : GoodIn wsX8_writeBreak wsX8_dropSpaces := goodIn_r _ [7, 2, 8, 9, 10, 6, 11, 12, 17, 18, 19, 20, 21, 22, 23, 24, 25, 26, 27, 28, 29, 30, 31, 32, 33, 34, 35, 36, 37, 38, 39, 40, 41, 42] (by decide +kernel) (by decide +kernel)
set_option maxRecDepth 20000 in
theorem gX8_writeBreak_X8_dropSpaces : GoodIn wsX8_writeBreak (wsV RX8 99 RX8 yX8_dropSpaces wsX8_dropSpaces) := goodIn_app (goodIn_of _ (by decide +kernel)) ggX8_writeBreak_X8_dropSpaces
set_option maxRecDepth 20000 in
theorem ggX8_writeBreak_X8_behind : GoodIn wsX8_writeBreak wsX8_behind := goodIn_r _ [11, 2, 12, 17, 18, 19, 20, 21, 22, 23, 24, 25, 26, 27, 28, 29, 30, 31, 32, 33, 34, 35, 36, 37, 38, 39, 40, 41, 42] (by decide +kernel) (by decide +kernel)
set_option maxRecDepth 20000 in
theorem gX8_writeBreak_X8_behind : GoodIn wsX8_writeBreak (wsV RX8 96 RX8 yX8_behind wsX8_behind) := goodIn_app (goodIn_of _ (by decide +kernel)) ggX8_writeBreak_X8_behind
set_option maxRecDepth 20000 in
theorem ggX8_writeBreak_X8_write : GoodIn wsX8_writeBreak wsX8_write := goodIn_r _ [16, 12, 2, 17, 18, 19, 20, 21, 22, 23, 24, 25, 26, 27, 28, 29, 30, 31, 32, 33, 34, 35, 36, 37, 38, 39, 40, 41, 42] (by decide +kernel) (by decide +kernel)
set_option maxRecDepth 20000 in
theorem gX8_writeBreak_X8_write : GoodIn wsX8_writeBreak (wsV RX8 93 RX8 yX8_write wsX8_write) := goodIn_app (goodIn_of _ (by decide +kernel)) ggX8_writeBreak_X8_write
theorem dX8_writeBreak_0 : decode cX8_writeBreak 0 = .ok (.aload_n 0, 1) := by decide +kernel
theorem dX8_writeBreak_1 : decode cX8_writeBreak 1 = .ok (.getfield 89, 3) := by decide +kernel
theorem dX8_writeBreak_4 : decode cX8_writeBreak 4 = .ok (.ifCond .ne 7, 3) := by decide +kernel
theorem dX8_writeBreak_7 : decode cX8_writeBreak 7 = .ok (.aload_n 0, 1) := by decide +kernel
theorem dX8_writeBreak_8 : decode cX8_writeBreak 8 = .ok (.invokevirtual 99, 3) := by decide +kernel
theorem dX8_writeBreak_11 : decode cX8_writeBreak 11 = .ok (.aload_n 0, 1) := by decide +kernel
theorem dX8_writeBreak_12 : decode cX8_writeBreak 12 = .ok (.getfield 86, 3) := by decide +kernel
theorem dX8_writeBreak_15 : decode cX8_writeBreak 15 = .ok (.ifCond .le 18, 3) := by decide +kernel
theorem dX8_writeBreak_18 : decode cX8_writeBreak 18 = .ok (.aload_n 0, 1) := by decide +kernel
theorem dX8_writeBreak_19 : decode cX8_writeBreak 19 = .ok (.bipush 10, 2) := by decide +kernel
theorem dX8_writeBreak_21 : decode cX8_writeBreak 21 = .ok (.invokevirtual 96, 3) := by decide +kernel
theorem dX8_writeBreak_24 : decode cX8_writeBreak 24 = .ok (.ifCond .ne 9, 3) := by decide +kernel
theorem dX8_writeBreak_27 : decode cX8_writeBreak 27 = .ok (.aload_n 0, 1) := by decide +kernel
theorem dX8_writeBreak_28 : decode cX8_writeBreak 28 = .ok (.bipush 10, 2) := by decide +kernel
theorem dX8_writeBreak_30 : decode cX8_writeBreak 30 = .ok (.invokevirtual 93, 3) := by decide +kernel
theorem dX8_writeBreak_33 : decode cX8_writeBreak 33 = .ok (.return_, 1) := by decide +kernel
set_option maxRecDepth 20000 in
theorem ggX8_stands_X8_lengthOf : GoodIn wsX8_stands wsX8_lengthOf := goodIn_r _ [5] (by decide +kernel) (by decide +kernel)
set_option maxRecDepth 20000 in
theorem gX8_stands_X8_lengthOf : GoodIn wsX8_stands (va_wsS RX8 102 yX8_lengthOf wsX8_lengthOf) := goodIn_app (goodIn_of _ (by decide +kernel)) ggX8_stands_X8_lengthOf
set_option maxRecDepth 20000 in
theorem ggX8_stands_X8_look : GoodIn wsX8_stands wsX8_look := goodIn_r _ [9, 10, 11, 18, 19, 20, 21, 22, 23, 24, 25, 26, 27, 28, 29, 30, 31, 32, 33, 34, 35, 36, 37, 38, 39, 40, 41, 42, 43] (by decide +kernel) (by decide +kernel)
set_option maxRecDepth 20000 in
theorem gX8_stands_X8_look : GoodIn wsX8_stands (wsV RX8 106 RX8 yX8_look wsX8_look) := goodIn_app (goodIn_of _ (by decide +kernel)) ggX8_stands_X8_look
set_option maxRecDepth 20000 in
theorem ggX8_stands_X8_small : GoodIn wsX8_stands wsX8_small := goodIn_r _ [14, 15, 16, 4, 17] (by decide +kernel) (by decide +kernel)
set_option maxRecDepth 20000 in
theorem gX8_stands_X8_small : GoodIn wsX8_stands (va_wsS RX8 110 yX8_small wsX8_small) := goodIn_app (goodIn_of _ (by decide +kernel)) ggX8_stands_X8_small
theorem dX8_stands_0 : decode cX8_stands 0 = .ok (.lload_n 2, 1) := by decide +kernel
theorem dX8_stands_1 : decode cX8_stands 1 = .ok (.invokestatic 102, 3) := by decide +kernel
theorem dX8_stands_4 : decode cX8_stands 4 = .ok (.istore 5, 2) := by decide +kernel
theorem dX8_stands_6 : decode cX8_stands 6 = .ok (.iconst 0, 1) := by decide +kernel
theorem dX8_stands_7 : decode cX8_stands 7 = .ok (.istore 6, 2) := by decide +kernel
theorem dX8_stands_9 : decode cX8_stands 9 = .ok (.iload 6, 2) := by decide +kernel
theorem dX8_stands_11 : decode cX8_stands 11 = .ok (.iload 5, 2) := by decide +kernel
theorem dX8_stands_13 : decode cX8_stands 13 = .ok (.if_icmp .ge 56, 3) := by decide +kernel
theorem dX8_stands_16 : decode cX8_stands 16 = .ok (.aload_n 0, 1) := by decide +kernel
theorem dX8_stands_17 : decode cX8_stands 17 = .ok (.iload_n 1, 1) := by decide +kernel
theorem dX8_stands_18 : decode cX8_stands 18 = .ok (.iload 6, 2) := by decide +kernel
theorem dX8_stands_20 : decode cX8_stands 20 = .ok (.iadd, 1) := by decide +kernel
theorem dX8_stands_21 : decode cX8_stands 21 = .ok (.invokevirtual 106, 3) := by decide +kernel
theorem dX8_stands_24 : decode cX8_stands 24 = .ok (.istore 7, 2) := by decide +kernel
theorem dX8_stands_26 : decode cX8_stands 26 = .ok (.iload 4, 2) := by decide +kernel
theorem dX8_stands_28 : decode cX8_stands 28 = .ok (.ifCond .eq 11, 3) := by decide +kernel
theorem dX8_stands_31 : decode cX8_stands 31 = .ok (.iload 7, 2) := by decide +kernel
theorem dX8_stands_33 : decode cX8_stands 33 = .ok (.invokestatic 110, 3) := by decide +kernel
theorem dX8_stands_36 : decode cX8_stands 36 = .ok (.goto 5, 3) := by decide +kernel
theorem dX8_stands_39 : decode cX8_stands 39 = .ok (.iload 7, 2) := by decide +kernel
theorem dX8_stands_41 : decode cX8_stands 41 = .ok (.lload_n 2, 1) := by decide +kernel
theorem dX8_stands_42 : decode cX8_stands 42 = .ok (.bipush 8, 2) := by decide +kernel
theorem dX8_stands_44 : decode cX8_stands 44 = .ok (.iload 5, 2) := by decide +kernel
theorem dX8_stands_46 : decode cX8_stands 46 = .ok (.iconst 1, 1) := by decide +kernel
theorem dX8_stands_47 : decode cX8_stands 47 = .ok (.isub, 1) := by decide +kernel
theorem dX8_stands_48 : decode cX8_stands 48 = .ok (.iload 6, 2) := by decide +kernel
theorem dX8_stands_50 : decode cX8_stands 50 = .ok (.isub, 1) := by decide +kernel
theorem dX8_stands_51 : decode cX8_stands 51 = .ok (.imul, 1) := by decide +kernel
theorem dX8_stands_52 : decode cX8_stands 52 = .ok (.lushr, 1) := by decide +kernel
theorem dX8_stands_53 : decode cX8_stands 53 = .ok (.ldc2_w 113, 3) := by decide +kernel
theorem dX8_stands_56 : decode cX8_stands 56 = .ok (.land, 1) := by decide +kernel
theorem dX8_stands_57 : decode cX8_stands 57 = .ok (.l2i, 1) := by decide +kernel
theorem dX8_stands_58 : decode cX8_stands 58 = .ok (.if_icmp .eq 5, 3) := by decide +kernel
theorem dX8_stands_61 : decode cX8_stands 61 = .ok (.iconst 0, 1) := by decide +kernel
theorem dX8_stands_62 : decode cX8_stands 62 = .ok (.ireturn, 1) := by decide +kernel
theorem dX8_stands_63 : decode cX8_stands 63 = .ok (.iinc 6 1, 3) := by decide +kernel
theorem dX8_stands_66 : decode cX8_stands 66 = .ok (.goto (-57), 3) := by decide +kernel
theorem dX8_stands_69 : decode cX8_stands 69 = .ok (.iconst 1, 1) := by decide +kernel
theorem dX8_stands_70 : decode cX8_stands 70 = .ok (.ireturn, 1) := by decide +kernel
theorem dX8_lengthOf_0 : decode cX8_lengthOf 0 = .ok (.iconst 0, 1) := by decide +kernel
theorem dX8_lengthOf_1 : decode cX8_lengthOf 1 = .ok (.istore_n 2, 1) := by decide +kernel
theorem dX8_lengthOf_2 : decode cX8_lengthOf 2 = .ok (.iload_n 2, 1) := by decide +kernel
theorem dX8_lengthOf_3 : decode cX8_lengthOf 3 = .ok (.bipush 8, 2) := by decide +kernel
theorem dX8_lengthOf_5 : decode cX8_lengthOf 5 = .ok (.if_icmp .ge 20, 3) := by decide +kernel
theorem dX8_lengthOf_8 : decode cX8_lengthOf 8 = .ok (.lload_n 0, 1) := by decide +kernel
theorem dX8_lengthOf_9 : decode cX8_lengthOf 9 = .ok (.bipush 8, 2) := by decide +kernel
theorem dX8_lengthOf_11 : decode cX8_lengthOf 11 = .ok (.iload_n 2, 1) := by decide +kernel
theorem dX8_lengthOf_12 : decode cX8_lengthOf 12 = .ok (.imul, 1) := by decide +kernel
theorem dX8_lengthOf_13 : decode cX8_lengthOf 13 = .ok (.lushr, 1) := by decide +kernel
theorem dX8_lengthOf_14 : decode cX8_lengthOf 14 = .ok (.lconst 0, 1) := by decide +kernel
theorem dX8_lengthOf_15 : decode cX8_lengthOf 15 = .ok (.lcmp, 1) := by decide +kernel
theorem dX8_lengthOf_16 : decode cX8_lengthOf 16 = .ok (.ifCond .eq 9, 3) := by decide +kernel
theorem dX8_lengthOf_19 : decode cX8_lengthOf 19 = .ok (.iinc 2 1, 3) := by decide +kernel
theorem dX8_lengthOf_22 : decode cX8_lengthOf 22 = .ok (.goto (-20), 3) := by decide +kernel
theorem dX8_lengthOf_25 : decode cX8_lengthOf 25 = .ok (.iload_n 2, 1) := by decide +kernel
theorem dX8_lengthOf_26 : decode cX8_lengthOf 26 = .ok (.ireturn, 1) := by decide +kernel
set_option maxRecDepth 20000 in
theorem ggX8_nameAt_X8_look : GoodIn wsX8_nameAt wsX8_look := goodIn_r _ [8, 9, 1, 30, 31, 32, 33, 34, 35, 36, 37, 38, 39, 40, 41, 42, 43, 44, 45, 46, 47, 48, 49, 50, 51, 52, 53, 54, 55] (by decide +kernel) (by decide +kernel)
set_option maxRecDepth 20000 in
theorem gX8_nameAt_X8_look : GoodIn wsX8_nameAt (wsV RX8 106 RX8 yX8_look wsX8_look) := goodIn_app (goodIn_of _ (by decide +kernel)) ggX8_nameAt_X8_look
set_option maxRecDepth 20000 in
theorem ggX8_nameAt_X8_isPlain : GoodIn wsX8_nameAt wsX8_isPlain := goodIn_r _ [12] (by decide +kernel) (by decide +kernel)
set_option maxRecDepth 20000 in
theorem gX8_nameAt_X8_isPlain : GoodIn wsX8_nameAt (va_wsS RX8 72 yX8_isPlain wsX8_isPlain) := goodIn_app (goodIn_of _ (by decide +kernel)) ggX8_nameAt_X8_isPlain
set_option maxRecDepth 20000 in
theorem ggX8_nameAt_X8_isDigit : GoodIn wsX8_nameAt wsX8_isDigit := goodIn_r _ [15] (by decide +kernel) (by decide +kernel)
set_option maxRecDepth 20000 in
theorem gX8_nameAt_X8_isDigit : GoodIn wsX8_nameAt (va_wsS RX8 79 yX8_isDigit wsX8_isDigit) := goodIn_app (goodIn_of _ (by decide +kernel)) ggX8_nameAt_X8_isDigit
set_option maxRecDepth 20000 in
theorem ggX8_nameAt_X8_small : GoodIn wsX8_nameAt wsX8_small := goodIn_r _ [18, 19, 20, 7, 21] (by decide +kernel) (by decide +kernel)
set_option maxRecDepth 20000 in
theorem gX8_nameAt_X8_small : GoodIn wsX8_nameAt (va_wsS RX8 110 yX8_small wsX8_small) := goodIn_app (goodIn_of _ (by decide +kernel)) ggX8_nameAt_X8_small
set_option maxRecDepth 20000 in
theorem ggX8_nameAt_X8_stands : GoodIn wsX8_nameAt wsX8_stands := goodIn_r _ [25, 26, 27, 28, 7, 29, 4, 5, 6, 8, 9, 1, 16, 17, 18, 19, 20, 21, 30, 31, 32, 33, 34, 35, 36, 37, 38, 39, 40, 41, 42, 43, 44, 45, 46, 47, 48, 49, 50, 51, 52, 53, 54, 55] (by decide +kernel) (by decide +kernel)
set_option maxRecDepth 20000 in
theorem gX8_nameAt_X8_stands : GoodIn wsX8_nameAt (wsV RX8 117 RX8 yX8_stands wsX8_stands) := goodIn_app (goodIn_of _ (by decide +kernel)) ggX8_nameAt_X8_stands
theorem dX8_nameAt_0 : decode cX8_nameAt 0 = .ok (.lconst 0, 1) := by decide +kernel
theorem dX8_nameAt_1 : decode cX8_nameAt 1 = .ok (.lstore_n 2, 1) := by decide +kernel
theorem dX8_nameAt_2 : decode cX8_nameAt 2 = .ok (.iload_n 1, 1) := by decide +kernel
theorem dX8_nameAt_3 : decode cX8_nameAt 3 = .ok (.istore 4, 2) := by decide +kernel
theorem dX8_nameAt_5 : decode cX8_nameAt 5 = .ok (.aload_n 0, 1) := by decide +kernel
theorem dX8_nameAt_6 : decode cX8_nameAt 6 = .ok (.iload 4, 2) := by decide +kernel
theorem dX8_nameAt_8 : decode cX8_nameAt 8 = .ok (.invokevirtual 106, 3) := by decide +kernel
theorem dX8_nameAt_11 : decode cX8_nameAt 11 = .ok (.invokestatic 72, 3) := by decide +kernel
theorem dX8_nameAt_14 : decode cX8_nameAt 14 = .ok (.ifCond .ne 15, 3) := by decide +kernel
theorem dX8_nameAt_17 : decode cX8_nameAt 17 = .ok (.aload_n 0, 1) := by decide +kernel
theorem dX8_nameAt_18 : decode cX8_nameAt 18 = .ok (.iload 4, 2) := by decide +kernel
theorem dX8_nameAt_20 : decode cX8_nameAt 20 = .ok (.invokevirtual 106, 3) := by decide +kernel
theorem dX8_nameAt_23 : decode cX8_nameAt 23 = .ok (.invokestatic 79, 3) := by decide +kernel
theorem dX8_nameAt_26 : decode cX8_nameAt 26 = .ok (.ifCond .eq 39, 3) := by decide +kernel
theorem dX8_nameAt_29 : decode cX8_nameAt 29 = .ok (.iload 4, 2) := by decide +kernel
theorem dX8_nameAt_31 : decode cX8_nameAt 31 = .ok (.iload_n 1, 1) := by decide +kernel
theorem dX8_nameAt_32 : decode cX8_nameAt 32 = .ok (.isub, 1) := by decide +kernel
theorem dX8_nameAt_33 : decode cX8_nameAt 33 = .ok (.bipush 8, 2) := by decide +kernel
theorem dX8_nameAt_35 : decode cX8_nameAt 35 = .ok (.if_icmp .ge 22, 3) := by decide +kernel
theorem dX8_nameAt_38 : decode cX8_nameAt 38 = .ok (.lload_n 2, 1) := by decide +kernel
theorem dX8_nameAt_39 : decode cX8_nameAt 39 = .ok (.bipush 8, 2) := by decide +kernel
theorem dX8_nameAt_41 : decode cX8_nameAt 41 = .ok (.lshl, 1) := by decide +kernel
theorem dX8_nameAt_42 : decode cX8_nameAt 42 = .ok (.aload_n 0, 1) := by decide +kernel
theorem dX8_nameAt_43 : decode cX8_nameAt 43 = .ok (.getfield 7, 3) := by decide +kernel
theorem dX8_nameAt_46 : decode cX8_nameAt 46 = .ok (.iload 4, 2) := by decide +kernel
theorem dX8_nameAt_48 : decode cX8_nameAt 48 = .ok (.iaload, 1) := by decide +kernel
theorem dX8_nameAt_49 : decode cX8_nameAt 49 = .ok (.invokestatic 110, 3) := by decide +kernel
theorem dX8_nameAt_52 : decode cX8_nameAt 52 = .ok (.i2l, 1) := by decide +kernel
theorem dX8_nameAt_53 : decode cX8_nameAt 53 = .ok (.lor, 1) := by decide +kernel
theorem dX8_nameAt_54 : decode cX8_nameAt 54 = .ok (.goto 4, 3) := by decide +kernel
theorem dX8_nameAt_57 : decode cX8_nameAt 57 = .ok (.lconst 1, 1) := by decide +kernel
theorem dX8_nameAt_58 : decode cX8_nameAt 58 = .ok (.lstore_n 2, 1) := by decide +kernel
theorem dX8_nameAt_59 : decode cX8_nameAt 59 = .ok (.iinc 4 1, 3) := by decide +kernel
theorem dX8_nameAt_62 : decode cX8_nameAt 62 = .ok (.goto (-57), 3) := by decide +kernel
theorem dX8_nameAt_65 : decode cX8_nameAt 65 = .ok (.iload 4, 2) := by decide +kernel
theorem dX8_nameAt_67 : decode cX8_nameAt 67 = .ok (.iload_n 1, 1) := by decide +kernel
theorem dX8_nameAt_68 : decode cX8_nameAt 68 = .ok (.isub, 1) := by decide +kernel
theorem dX8_nameAt_69 : decode cX8_nameAt 69 = .ok (.bipush 8, 2) := by decide +kernel
theorem dX8_nameAt_71 : decode cX8_nameAt 71 = .ok (.if_icmp .le 73, 3) := by decide +kernel
theorem dX8_nameAt_74 : decode cX8_nameAt 74 = .ok (.iload 4, 2) := by decide +kernel
theorem dX8_nameAt_76 : decode cX8_nameAt 76 = .ok (.iload_n 1, 1) := by decide +kernel
theorem dX8_nameAt_77 : decode cX8_nameAt 77 = .ok (.isub, 1) := by decide +kernel
theorem dX8_nameAt_78 : decode cX8_nameAt 78 = .ok (.bipush 11, 2) := by decide +kernel
theorem dX8_nameAt_80 : decode cX8_nameAt 80 = .ok (.if_icmp .ge 64, 3) := by decide +kernel
theorem dX8_nameAt_83 : decode cX8_nameAt 83 = .ok (.aload_n 0, 1) := by decide +kernel
theorem dX8_nameAt_84 : decode cX8_nameAt 84 = .ok (.iload_n 1, 1) := by decide +kernel
theorem dX8_nameAt_85 : decode cX8_nameAt 85 = .ok (.ldc2_w 115, 3) := by decide +kernel
theorem dX8_nameAt_88 : decode cX8_nameAt 88 = .ok (.iconst 1, 1) := by decide +kernel
theorem dX8_nameAt_89 : decode cX8_nameAt 89 = .ok (.invokevirtual 117, 3) := by decide +kernel
theorem dX8_nameAt_92 : decode cX8_nameAt 92 = .ok (.ifCond .eq 52, 3) := by decide +kernel
theorem dX8_nameAt_95 : decode cX8_nameAt 95 = .ok (.iload 4, 2) := by decide +kernel
theorem dX8_nameAt_97 : decode cX8_nameAt 97 = .ok (.iload_n 1, 1) := by decide +kernel
theorem dX8_nameAt_98 : decode cX8_nameAt 98 = .ok (.isub, 1) := by decide +kernel
theorem dX8_nameAt_99 : decode cX8_nameAt 99 = .ok (.bipush 10, 2) := by decide +kernel
theorem dX8_nameAt_101 : decode cX8_nameAt 101 = .ok (.if_icmp .ne 43, 3) := by decide +kernel
theorem dX8_nameAt_104 : decode cX8_nameAt 104 = .ok (.aload_n 0, 1) := by decide +kernel
theorem dX8_nameAt_105 : decode cX8_nameAt 105 = .ok (.getfield 7, 3) := by decide +kernel
theorem dX8_nameAt_108 : decode cX8_nameAt 108 = .ok (.iload 4, 2) := by decide +kernel
theorem dX8_nameAt_110 : decode cX8_nameAt 110 = .ok (.iconst 2, 1) := by decide +kernel
theorem dX8_nameAt_111 : decode cX8_nameAt 111 = .ok (.isub, 1) := by decide +kernel
theorem dX8_nameAt_112 : decode cX8_nameAt 112 = .ok (.iaload, 1) := by decide +kernel
theorem dX8_nameAt_113 : decode cX8_nameAt 113 = .ok (.invokestatic 110, 3) := by decide +kernel
theorem dX8_nameAt_116 : decode cX8_nameAt 116 = .ok (.bipush 116, 2) := by decide +kernel
theorem dX8_nameAt_118 : decode cX8_nameAt 118 = .ok (.if_icmp .ne 26, 3) := by decide +kernel
theorem dX8_nameAt_121 : decode cX8_nameAt 121 = .ok (.aload_n 0, 1) := by decide +kernel
theorem dX8_nameAt_122 : decode cX8_nameAt 122 = .ok (.getfield 7, 3) := by decide +kernel
theorem dX8_nameAt_125 : decode cX8_nameAt 125 = .ok (.iload 4, 2) := by decide +kernel
theorem dX8_nameAt_127 : decode cX8_nameAt 127 = .ok (.iconst 1, 1) := by decide +kernel
theorem dX8_nameAt_128 : decode cX8_nameAt 128 = .ok (.isub, 1) := by decide +kernel
theorem dX8_nameAt_129 : decode cX8_nameAt 129 = .ok (.iaload, 1) := by decide +kernel
theorem dX8_nameAt_130 : decode cX8_nameAt 130 = .ok (.invokestatic 110, 3) := by decide +kernel
theorem dX8_nameAt_133 : decode cX8_nameAt 133 = .ok (.bipush 101, 2) := by decide +kernel
theorem dX8_nameAt_135 : decode cX8_nameAt 135 = .ok (.if_icmp .ne 9, 3) := by decide +kernel
theorem dX8_nameAt_138 : decode cX8_nameAt 138 = .ok (.ldc2_w 121, 3) := by decide +kernel
theorem dX8_nameAt_141 : decode cX8_nameAt 141 = .ok (.goto 17, 3) := by decide +kernel
theorem dX8_nameAt_144 : decode cX8_nameAt 144 = .ok (.iload 4, 2) := by decide +kernel
theorem dX8_nameAt_146 : decode cX8_nameAt 146 = .ok (.iload_n 1, 1) := by decide +kernel
theorem dX8_nameAt_147 : decode cX8_nameAt 147 = .ok (.isub, 1) := by decide +kernel
theorem dX8_nameAt_148 : decode cX8_nameAt 148 = .ok (.bipush 8, 2) := by decide +kernel
theorem dX8_nameAt_150 : decode cX8_nameAt 150 = .ok (.if_icmp .le 7, 3) := by decide +kernel
theorem dX8_nameAt_153 : decode cX8_nameAt 153 = .ok (.lconst 1, 1) := by decide +kernel
theorem dX8_nameAt_154 : decode cX8_nameAt 154 = .ok (.goto 4, 3) := by decide +kernel
theorem dX8_nameAt_157 : decode cX8_nameAt 157 = .ok (.lload_n 2, 1) := by decide +kernel
theorem dX8_nameAt_158 : decode cX8_nameAt 158 = .ok (.lreturn, 1) := by decide +kernel
set_option maxRecDepth 20000 in
theorem ggX8_tagEnd_X8_isBlank : GoodIn wsX8_tagEnd wsX8_isBlank := goodIn_r _ [6] (by decide +kernel) (by decide +kernel)
set_option maxRecDepth 20000 in
theorem gX8_tagEnd_X8_isBlank : GoodIn wsX8_tagEnd (va_wsS RX8 123 yX8_isBlank wsX8_isBlank) := goodIn_app (goodIn_of _ (by decide +kernel)) ggX8_tagEnd_X8_isBlank
theorem dX8_tagEnd_0 : decode cX8_tagEnd 0 = .ok (.iload_n 1, 1) := by decide +kernel
theorem dX8_tagEnd_1 : decode cX8_tagEnd 1 = .ok (.istore_n 2, 1) := by decide +kernel
theorem dX8_tagEnd_2 : decode cX8_tagEnd 2 = .ok (.iconst 0, 1) := by decide +kernel
theorem dX8_tagEnd_3 : decode cX8_tagEnd 3 = .ok (.istore_n 3, 1) := by decide +kernel
theorem dX8_tagEnd_4 : decode cX8_tagEnd 4 = .ok (.iload_n 2, 1) := by decide +kernel
theorem dX8_tagEnd_5 : decode cX8_tagEnd 5 = .ok (.aload_n 0, 1) := by decide +kernel
theorem dX8_tagEnd_6 : decode cX8_tagEnd 6 = .ok (.getfield 64, 3) := by decide +kernel
theorem dX8_tagEnd_9 : decode cX8_tagEnd 9 = .ok (.if_icmp .ge 101, 3) := by decide +kernel
theorem dX8_tagEnd_12 : decode cX8_tagEnd 12 = .ok (.aload_n 0, 1) := by decide +kernel
theorem dX8_tagEnd_13 : decode cX8_tagEnd 13 = .ok (.getfield 7, 3) := by decide +kernel
theorem dX8_tagEnd_16 : decode cX8_tagEnd 16 = .ok (.iload_n 2, 1) := by decide +kernel
theorem dX8_tagEnd_17 : decode cX8_tagEnd 17 = .ok (.iaload, 1) := by decide +kernel
theorem dX8_tagEnd_18 : decode cX8_tagEnd 18 = .ok (.bipush 62, 2) := by decide +kernel
theorem dX8_tagEnd_20 : decode cX8_tagEnd 20 = .ok (.if_icmp .eq 90, 3) := by decide +kernel
theorem dX8_tagEnd_23 : decode cX8_tagEnd 23 = .ok (.aload_n 0, 1) := by decide +kernel
theorem dX8_tagEnd_24 : decode cX8_tagEnd 24 = .ok (.getfield 7, 3) := by decide +kernel
theorem dX8_tagEnd_27 : decode cX8_tagEnd 27 = .ok (.iload_n 2, 1) := by decide +kernel
theorem dX8_tagEnd_28 : decode cX8_tagEnd 28 = .ok (.iaload, 1) := by decide +kernel
theorem dX8_tagEnd_29 : decode cX8_tagEnd 29 = .ok (.istore 4, 2) := by decide +kernel
theorem dX8_tagEnd_31 : decode cX8_tagEnd 31 = .ok (.iload_n 3, 1) := by decide +kernel
theorem dX8_tagEnd_32 : decode cX8_tagEnd 32 = .ok (.ifCond .eq 50, 3) := by decide +kernel
theorem dX8_tagEnd_35 : decode cX8_tagEnd 35 = .ok (.iload 4, 2) := by decide +kernel
theorem dX8_tagEnd_37 : decode cX8_tagEnd 37 = .ok (.bipush 34, 2) := by decide +kernel
theorem dX8_tagEnd_39 : decode cX8_tagEnd 39 = .ok (.if_icmp .eq 10, 3) := by decide +kernel
theorem dX8_tagEnd_42 : decode cX8_tagEnd 42 = .ok (.iload 4, 2) := by decide +kernel
theorem dX8_tagEnd_44 : decode cX8_tagEnd 44 = .ok (.bipush 39, 2) := by decide +kernel
theorem dX8_tagEnd_46 : decode cX8_tagEnd 46 = .ok (.if_icmp .ne 36, 3) := by decide +kernel
theorem dX8_tagEnd_49 : decode cX8_tagEnd 49 = .ok (.iinc 2 1, 3) := by decide +kernel
theorem dX8_tagEnd_52 : decode cX8_tagEnd 52 = .ok (.iload_n 2, 1) := by decide +kernel
theorem dX8_tagEnd_53 : decode cX8_tagEnd 53 = .ok (.aload_n 0, 1) := by decide +kernel
theorem dX8_tagEnd_54 : decode cX8_tagEnd 54 = .ok (.getfield 64, 3) := by decide +kernel
theorem dX8_tagEnd_57 : decode cX8_tagEnd 57 = .ok (.if_icmp .ge 20, 3) := by decide +kernel
theorem dX8_tagEnd_60 : decode cX8_tagEnd 60 = .ok (.aload_n 0, 1) := by decide +kernel
theorem dX8_tagEnd_61 : decode cX8_tagEnd 61 = .ok (.getfield 7, 3) := by decide +kernel
theorem dX8_tagEnd_64 : decode cX8_tagEnd 64 = .ok (.iload_n 2, 1) := by decide +kernel
theorem dX8_tagEnd_65 : decode cX8_tagEnd 65 = .ok (.iaload, 1) := by decide +kernel
theorem dX8_tagEnd_66 : decode cX8_tagEnd 66 = .ok (.iload 4, 2) := by decide +kernel
theorem dX8_tagEnd_68 : decode cX8_tagEnd 68 = .ok (.if_icmp .eq 9, 3) := by decide +kernel
theorem dX8_tagEnd_71 : decode cX8_tagEnd 71 = .ok (.iinc 2 1, 3) := by decide +kernel
theorem dX8_tagEnd_74 : decode cX8_tagEnd 74 = .ok (.goto (-22), 3) := by decide +kernel
theorem dX8_tagEnd_77 : decode cX8_tagEnd 77 = .ok (.iconst 0, 1) := by decide +kernel
theorem dX8_tagEnd_78 : decode cX8_tagEnd 78 = .ok (.istore_n 3, 1) := by decide +kernel
theorem dX8_tagEnd_79 : decode cX8_tagEnd 79 = .ok (.goto 25, 3) := by decide +kernel
theorem dX8_tagEnd_82 : decode cX8_tagEnd 82 = .ok (.iload 4, 2) := by decide +kernel
theorem dX8_tagEnd_84 : decode cX8_tagEnd 84 = .ok (.bipush 61, 2) := by decide +kernel
theorem dX8_tagEnd_86 : decode cX8_tagEnd 86 = .ok (.if_icmp .ne 8, 3) := by decide +kernel
theorem dX8_tagEnd_89 : decode cX8_tagEnd 89 = .ok (.iconst 1, 1) := by decide +kernel
theorem dX8_tagEnd_90 : decode cX8_tagEnd 90 = .ok (.istore_n 3, 1) := by decide +kernel
theorem dX8_tagEnd_91 : decode cX8_tagEnd 91 = .ok (.goto 13, 3) := by decide +kernel
theorem dX8_tagEnd_94 : decode cX8_tagEnd 94 = .ok (.iload 4, 2) := by decide +kernel
theorem dX8_tagEnd_96 : decode cX8_tagEnd 96 = .ok (.invokestatic 123, 3) := by decide +kernel
theorem dX8_tagEnd_99 : decode cX8_tagEnd 99 = .ok (.ifCond .ne 5, 3) := by decide +kernel
theorem dX8_tagEnd_102 : decode cX8_tagEnd 102 = .ok (.iconst 0, 1) := by decide +kernel
theorem dX8_tagEnd_103 : decode cX8_tagEnd 103 = .ok (.istore_n 3, 1) := by decide +kernel
theorem dX8_tagEnd_104 : decode cX8_tagEnd 104 = .ok (.iinc 2 1, 3) := by decide +kernel
theorem dX8_tagEnd_107 : decode cX8_tagEnd 107 = .ok (.goto (-103), 3) := by decide +kernel
theorem dX8_tagEnd_110 : decode cX8_tagEnd 110 = .ok (.iload_n 2, 1) := by decide +kernel
theorem dX8_tagEnd_111 : decode cX8_tagEnd 111 = .ok (.aload_n 0, 1) := by decide +kernel
theorem dX8_tagEnd_112 : decode cX8_tagEnd 112 = .ok (.getfield 64, 3) := by decide +kernel
theorem dX8_tagEnd_115 : decode cX8_tagEnd 115 = .ok (.if_icmp .ge 9, 3) := by decide +kernel
theorem dX8_tagEnd_118 : decode cX8_tagEnd 118 = .ok (.iload_n 2, 1) := by decide +kernel
theorem dX8_tagEnd_119 : decode cX8_tagEnd 119 = .ok (.iconst 1, 1) := by decide +kernel
theorem dX8_tagEnd_120 : decode cX8_tagEnd 120 = .ok (.iadd, 1) := by decide +kernel
theorem dX8_tagEnd_121 : decode cX8_tagEnd 121 = .ok (.goto 7, 3) := by decide +kernel
theorem dX8_tagEnd_124 : decode cX8_tagEnd 124 = .ok (.aload_n 0, 1) := by decide +kernel
theorem dX8_tagEnd_125 : decode cX8_tagEnd 125 = .ok (.getfield 64, 3) := by decide +kernel
theorem dX8_tagEnd_128 : decode cX8_tagEnd 128 = .ok (.ireturn, 1) := by decide +kernel
theorem dX8_breaks_0 : decode cX8_breaks 0 = .ok (.lload_n 0, 1) := by decide +kernel
theorem dX8_breaks_1 : decode cX8_breaks 1 = .ok (.ldc2_w 121, 3) := by decide +kernel
theorem dX8_breaks_4 : decode cX8_breaks 4 = .ok (.lcmp, 1) := by decide +kernel
theorem dX8_breaks_5 : decode cX8_breaks 5 = .ok (.ifCond .eq 75, 3) := by decide +kernel
theorem dX8_breaks_8 : decode cX8_breaks 8 = .ok (.lload_n 0, 1) := by decide +kernel
theorem dX8_breaks_9 : decode cX8_breaks 9 = .ok (.ldc2_w 126, 3) := by decide +kernel
theorem dX8_breaks_12 : decode cX8_breaks 12 = .ok (.lcmp, 1) := by decide +kernel
theorem dX8_breaks_13 : decode cX8_breaks 13 = .ok (.ifCond .eq 67, 3) := by decide +kernel
theorem dX8_breaks_16 : decode cX8_breaks 16 = .ok (.lload_n 0, 1) := by decide +kernel
theorem dX8_breaks_17 : decode cX8_breaks 17 = .ok (.ldc2_w 128, 3) := by decide +kernel
theorem dX8_breaks_20 : decode cX8_breaks 20 = .ok (.lcmp, 1) := by decide +kernel
theorem dX8_breaks_21 : decode cX8_breaks 21 = .ok (.ifCond .eq 59, 3) := by decide +kernel
theorem dX8_breaks_24 : decode cX8_breaks 24 = .ok (.lload_n 0, 1) := by decide +kernel
theorem dX8_breaks_25 : decode cX8_breaks 25 = .ok (.ldc2_w 130, 3) := by decide +kernel
theorem dX8_breaks_28 : decode cX8_breaks 28 = .ok (.lcmp, 1) := by decide +kernel
theorem dX8_breaks_29 : decode cX8_breaks 29 = .ok (.ifCond .eq 51, 3) := by decide +kernel
theorem dX8_breaks_32 : decode cX8_breaks 32 = .ok (.lload_n 0, 1) := by decide +kernel
theorem dX8_breaks_33 : decode cX8_breaks 33 = .ok (.ldc2_w 132, 3) := by decide +kernel
theorem dX8_breaks_36 : decode cX8_breaks 36 = .ok (.lcmp, 1) := by decide +kernel
theorem dX8_breaks_37 : decode cX8_breaks 37 = .ok (.ifCond .eq 43, 3) := by decide +kernel
theorem dX8_breaks_40 : decode cX8_breaks 40 = .ok (.lload_n 0, 1) := by decide +kernel
theorem dX8_breaks_41 : decode cX8_breaks 41 = .ok (.ldc2_w 134, 3) := by decide +kernel
theorem dX8_breaks_44 : decode cX8_breaks 44 = .ok (.lcmp, 1) := by decide +kernel
theorem dX8_breaks_45 : decode cX8_breaks 45 = .ok (.ifCond .eq 35, 3) := by decide +kernel
theorem dX8_breaks_48 : decode cX8_breaks 48 = .ok (.lload_n 0, 1) := by decide +kernel
theorem dX8_breaks_49 : decode cX8_breaks 49 = .ok (.ldc2_w 136, 3) := by decide +kernel
theorem dX8_breaks_52 : decode cX8_breaks 52 = .ok (.lcmp, 1) := by decide +kernel
theorem dX8_breaks_53 : decode cX8_breaks 53 = .ok (.ifCond .eq 27, 3) := by decide +kernel
theorem dX8_breaks_56 : decode cX8_breaks 56 = .ok (.lload_n 0, 1) := by decide +kernel
theorem dX8_breaks_57 : decode cX8_breaks 57 = .ok (.ldc2_w 138, 3) := by decide +kernel
theorem dX8_breaks_60 : decode cX8_breaks 60 = .ok (.lcmp, 1) := by decide +kernel
theorem dX8_breaks_61 : decode cX8_breaks 61 = .ok (.ifCond .eq 19, 3) := by decide +kernel
theorem dX8_breaks_64 : decode cX8_breaks 64 = .ok (.lload_n 0, 1) := by decide +kernel
theorem dX8_breaks_65 : decode cX8_breaks 65 = .ok (.ldc2_w 140, 3) := by decide +kernel
theorem dX8_breaks_68 : decode cX8_breaks 68 = .ok (.lcmp, 1) := by decide +kernel
theorem dX8_breaks_69 : decode cX8_breaks 69 = .ok (.ifCond .eq 11, 3) := by decide +kernel
theorem dX8_breaks_72 : decode cX8_breaks 72 = .ok (.lload_n 0, 1) := by decide +kernel
theorem dX8_breaks_73 : decode cX8_breaks 73 = .ok (.ldc2_w 142, 3) := by decide +kernel
theorem dX8_breaks_76 : decode cX8_breaks 76 = .ok (.lcmp, 1) := by decide +kernel
theorem dX8_breaks_77 : decode cX8_breaks 77 = .ok (.ifCond .ne 5, 3) := by decide +kernel
theorem dX8_breaks_80 : decode cX8_breaks 80 = .ok (.iconst 1, 1) := by decide +kernel
theorem dX8_breaks_81 : decode cX8_breaks 81 = .ok (.ireturn, 1) := by decide +kernel
theorem dX8_breaks_82 : decode cX8_breaks 82 = .ok (.lload_n 0, 1) := by decide +kernel
theorem dX8_breaks_83 : decode cX8_breaks 83 = .ok (.ldc2_w 144, 3) := by decide +kernel
theorem dX8_breaks_86 : decode cX8_breaks 86 = .ok (.lcmp, 1) := by decide +kernel
theorem dX8_breaks_87 : decode cX8_breaks 87 = .ok (.ifCond .lt 11, 3) := by decide +kernel
theorem dX8_breaks_90 : decode cX8_breaks 90 = .ok (.lload_n 0, 1) := by decide +kernel
theorem dX8_breaks_91 : decode cX8_breaks 91 = .ok (.ldc2_w 146, 3) := by decide +kernel
theorem dX8_breaks_94 : decode cX8_breaks 94 = .ok (.lcmp, 1) := by decide +kernel
theorem dX8_breaks_95 : decode cX8_breaks 95 = .ok (.ifCond .le 11, 3) := by decide +kernel
theorem dX8_breaks_98 : decode cX8_breaks 98 = .ok (.lload_n 0, 1) := by decide +kernel
theorem dX8_breaks_99 : decode cX8_breaks 99 = .ok (.ldc2_w 148, 3) := by decide +kernel
theorem dX8_breaks_102 : decode cX8_breaks 102 = .ok (.lcmp, 1) := by decide +kernel
theorem dX8_breaks_103 : decode cX8_breaks 103 = .ok (.ifCond .ne 7, 3) := by decide +kernel
theorem dX8_breaks_106 : decode cX8_breaks 106 = .ok (.iconst 1, 1) := by decide +kernel
theorem dX8_breaks_107 : decode cX8_breaks 107 = .ok (.goto 4, 3) := by decide +kernel
theorem dX8_breaks_110 : decode cX8_breaks 110 = .ok (.iconst 0, 1) := by decide +kernel
theorem dX8_breaks_111 : decode cX8_breaks 111 = .ok (.ireturn, 1) := by decide +kernel
set_option maxRecDepth 20000 in
theorem ggX8_readTag_X8_look : GoodIn wsX8_readTag wsX8_look := goodIn_r _ [13, 14, 15, 95, 96, 97, 98, 99, 100, 101, 102, 103, 104, 105, 106, 107, 108, 109, 110, 111, 112, 113, 114, 115, 116, 117, 118, 119, 120] (by decide +kernel) (by decide +kernel)
set_option maxRecDepth 20000 in
theorem gX8_readTag_X8_look : GoodIn wsX8_readTag (wsV RX8 106 RX8 yX8_look wsX8_look) := goodIn_app (goodIn_of _ (by decide +kernel)) ggX8_readTag_X8_look
set_option maxRecDepth 20000 in
theorem ggX8_readTag_X8_nameAt : GoodIn wsX8_readTag wsX8_nameAt := goodIn_r _ [19, 15, 20, 21, 9, 10, 11, 12, 13, 14, 22, 23, 24, 25, 26, 27, 28, 29, 30, 31, 32, 33, 34, 35, 36, 37, 38, 39, 40, 41, 95, 96, 97, 98, 99, 100, 101, 102, 103, 104, 105, 106, 107, 108, 109, 110, 111, 112, 113, 114, 115, 116, 117, 118, 119, 120] (by decide +kernel) (by decide +kernel)
set_option maxRecDepth 20000 in
theorem gX8_readTag_X8_nameAt : GoodIn wsX8_readTag (wsV RX8 153 RX8 yX8_nameAt wsX8_nameAt) := goodIn_app (goodIn_of _ (by decide +kernel)) ggX8_readTag_X8_nameAt
set_option maxRecDepth 20000 in
theorem ggX8_readTag_X8_tagEnd : GoodIn wsX8_readTag wsX8_tagEnd := goodIn_r _ [45, 14, 15, 46, 47, 12, 48, 95, 96, 97, 98, 99, 100, 101, 102, 103, 104, 105, 106, 107, 108, 109, 110, 111, 112, 113, 114, 115, 116, 117, 118, 119, 120] (by decide +kernel) (by decide +kernel)
set_option maxRecDepth 20000 in
theorem gX8_readTag_X8_tagEnd : GoodIn wsX8_readTag (wsV RX8 157 RX8 yX8_tagEnd wsX8_tagEnd) := goodIn_app (goodIn_of _ (by decide +kernel)) ggX8_readTag_X8_tagEnd
set_option maxRecDepth 20000 in
theorem ggX8_readTag_X8_breaks : GoodIn wsX8_readTag wsX8_breaks := goodIn_r _ [51, 21, 52, 53, 54, 55, 56, 57, 58, 59, 60, 61, 62, 2] (by decide +kernel) (by decide +kernel)
set_option maxRecDepth 20000 in
theorem gX8_readTag_X8_breaks : GoodIn wsX8_readTag (va_wsS RX8 160 yX8_breaks wsX8_breaks) := goodIn_app (goodIn_of _ (by decide +kernel)) ggX8_readTag_X8_breaks
set_option maxRecDepth 20000 in
theorem ggX8_readTag_X8_writeBreak : GoodIn wsX8_readTag wsX8_writeBreak := goodIn_r _ [66, 3, 67, 68, 69, 70, 12, 71, 72, 73, 74, 75, 76, 77, 78, 79, 80, 95, 96, 97, 98, 99, 100, 101, 102, 103, 104, 105, 106, 107, 108, 109, 110, 111, 112, 113, 114, 115, 116, 117, 118, 119, 120] (by decide +kernel) (by decide +kernel)
set_option maxRecDepth 20000 in
theorem gX8_readTag_X8_writeBreak : GoodIn wsX8_readTag (wsV RX8 164 RX8 yX8_writeBreak wsX8_writeBreak) := goodIn_app (goodIn_of _ (by decide +kernel)) ggX8_readTag_X8_writeBreak
set_option maxRecDepth 20000 in
theorem ggX8_readTag_X8_writeBlank : GoodIn wsX8_readTag wsX8_writeBlank := goodIn_r _ [84, 3, 67, 77, 78, 79, 12, 80, 76, 72, 73, 74, 75, 95, 96, 97, 98, 99, 100, 101, 102, 103, 104, 105, 106, 107, 108, 109, 110, 111, 112, 113, 114, 115, 116, 117, 118, 119, 120] (by decide +kernel) (by decide +kernel)
set_option maxRecDepth 20000 in
theorem gX8_readTag_X8_writeBlank : GoodIn wsX8_readTag (wsV RX8 171 RX8 yX8_writeBlank wsX8_writeBlank) := goodIn_app (goodIn_of _ (by decide +kernel)) ggX8_readTag_X8_writeBlank
set_option maxRecDepth 20000 in
theorem ggX8_readTag_X8_skip : GoodIn wsX8_readTag wsX8_skip := goodIn_r _ [88, 1, 14, 15, 39, 40, 12, 41, 9, 10, 11, 13, 34, 35, 36, 37, 38, 28, 29, 30, 31, 32, 33, 89, 90, 91, 92, 93, 94, 22, 23, 24, 25, 26, 27, 95, 96, 97, 98, 99, 100, 101, 102, 103, 104, 105, 106, 107, 108, 109, 110, 111, 112, 113, 114, 115, 116, 117, 118, 119, 120] (by decide +kernel) (by decide +kernel)
set_option maxRecDepth 20000 in
theorem gX8_readTag_X8_skip : GoodIn wsX8_readTag (wsV RX8 180 RX8 yX8_skip wsX8_skip) := goodIn_app (goodIn_of _ (by decide +kernel)) ggX8_readTag_X8_skip
theorem dX8_readTag_0 : decode cX8_readTag 0 = .ok (.aload_n 0, 1) := by decide +kernel
theorem dX8_readTag_1 : decode cX8_readTag 1 = .ok (.aload_n 0, 1) := by decide +kernel
theorem dX8_readTag_2 : decode cX8_readTag 2 = .ok (.getfield 150, 3) := by decide +kernel
theorem dX8_readTag_5 : decode cX8_readTag 5 = .ok (.iconst 1, 1) := by decide +kernel
theorem dX8_readTag_6 : decode cX8_readTag 6 = .ok (.iadd, 1) := by decide +kernel
theorem dX8_readTag_7 : decode cX8_readTag 7 = .ok (.invokevirtual 106, 3) := by decide +kernel
theorem dX8_readTag_10 : decode cX8_readTag 10 = .ok (.bipush 47, 2) := by decide +kernel
theorem dX8_readTag_12 : decode cX8_readTag 12 = .ok (.if_icmp .ne 7, 3) := by decide +kernel
theorem dX8_readTag_15 : decode cX8_readTag 15 = .ok (.iconst 1, 1) := by decide +kernel
theorem dX8_readTag_16 : decode cX8_readTag 16 = .ok (.goto 4, 3) := by decide +kernel
theorem dX8_readTag_19 : decode cX8_readTag 19 = .ok (.iconst 0, 1) := by decide +kernel
theorem dX8_readTag_20 : decode cX8_readTag 20 = .ok (.istore_n 1, 1) := by decide +kernel
theorem dX8_readTag_21 : decode cX8_readTag 21 = .ok (.aload_n 0, 1) := by decide +kernel
theorem dX8_readTag_22 : decode cX8_readTag 22 = .ok (.getfield 150, 3) := by decide +kernel
theorem dX8_readTag_25 : decode cX8_readTag 25 = .ok (.iload_n 1, 1) := by decide +kernel
theorem dX8_readTag_26 : decode cX8_readTag 26 = .ok (.ifCond .eq 7, 3) := by decide +kernel
theorem dX8_readTag_29 : decode cX8_readTag 29 = .ok (.iconst 2, 1) := by decide +kernel
theorem dX8_readTag_30 : decode cX8_readTag 30 = .ok (.goto 4, 3) := by decide +kernel
theorem dX8_readTag_33 : decode cX8_readTag 33 = .ok (.iconst 1, 1) := by decide +kernel
theorem dX8_readTag_34 : decode cX8_readTag 34 = .ok (.iadd, 1) := by decide +kernel
theorem dX8_readTag_35 : decode cX8_readTag 35 = .ok (.istore_n 2, 1) := by decide +kernel
theorem dX8_readTag_36 : decode cX8_readTag 36 = .ok (.aload_n 0, 1) := by decide +kernel
theorem dX8_readTag_37 : decode cX8_readTag 37 = .ok (.iload_n 2, 1) := by decide +kernel
theorem dX8_readTag_38 : decode cX8_readTag 38 = .ok (.invokevirtual 153, 3) := by decide +kernel
theorem dX8_readTag_41 : decode cX8_readTag 41 = .ok (.lstore_n 3, 1) := by decide +kernel
theorem dX8_readTag_42 : decode cX8_readTag 42 = .ok (.aload_n 0, 1) := by decide +kernel
theorem dX8_readTag_43 : decode cX8_readTag 43 = .ok (.aload_n 0, 1) := by decide +kernel
theorem dX8_readTag_44 : decode cX8_readTag 44 = .ok (.iload_n 2, 1) := by decide +kernel
theorem dX8_readTag_45 : decode cX8_readTag 45 = .ok (.invokevirtual 157, 3) := by decide +kernel
theorem dX8_readTag_48 : decode cX8_readTag 48 = .ok (.putfield 150, 3) := by decide +kernel
theorem dX8_readTag_51 : decode cX8_readTag 51 = .ok (.lload_n 3, 1) := by decide +kernel
theorem dX8_readTag_52 : decode cX8_readTag 52 = .ok (.ldc2_w 148, 3) := by decide +kernel
theorem dX8_readTag_55 : decode cX8_readTag 55 = .ok (.lcmp, 1) := by decide +kernel
theorem dX8_readTag_56 : decode cX8_readTag 56 = .ok (.ifCond .ne 12, 3) := by decide +kernel
theorem dX8_readTag_59 : decode cX8_readTag 59 = .ok (.iload_n 1, 1) := by decide +kernel
theorem dX8_readTag_60 : decode cX8_readTag 60 = .ok (.ifCond .eq 8, 3) := by decide +kernel
theorem dX8_readTag_63 : decode cX8_readTag 63 = .ok (.aload_n 0, 1) := by decide +kernel
theorem dX8_readTag_64 : decode cX8_readTag 64 = .ok (.iconst 0, 1) := by decide +kernel
theorem dX8_readTag_65 : decode cX8_readTag 65 = .ok (.putfield 89, 3) := by decide +kernel
theorem dX8_readTag_68 : decode cX8_readTag 68 = .ok (.lload_n 3, 1) := by decide +kernel
theorem dX8_readTag_69 : decode cX8_readTag 69 = .ok (.invokestatic 160, 3) := by decide +kernel
theorem dX8_readTag_72 : decode cX8_readTag 72 = .ok (.ifCond .eq 7, 3) := by decide +kernel
theorem dX8_readTag_75 : decode cX8_readTag 75 = .ok (.aload_n 0, 1) := by decide +kernel
theorem dX8_readTag_76 : decode cX8_readTag 76 = .ok (.invokevirtual 164, 3) := by decide +kernel
theorem dX8_readTag_79 : decode cX8_readTag 79 = .ok (.lload_n 3, 1) := by decide +kernel
theorem dX8_readTag_80 : decode cX8_readTag 80 = .ok (.ldc2_w 148, 3) := by decide +kernel
theorem dX8_readTag_83 : decode cX8_readTag 83 = .ok (.lcmp, 1) := by decide +kernel
theorem dX8_readTag_84 : decode cX8_readTag 84 = .ok (.ifCond .ne 12, 3) := by decide +kernel
theorem dX8_readTag_87 : decode cX8_readTag 87 = .ok (.iload_n 1, 1) := by decide +kernel
theorem dX8_readTag_88 : decode cX8_readTag 88 = .ok (.ifCond .ne 8, 3) := by decide +kernel
theorem dX8_readTag_91 : decode cX8_readTag 91 = .ok (.aload_n 0, 1) := by decide +kernel
theorem dX8_readTag_92 : decode cX8_readTag 92 = .ok (.iconst 1, 1) := by decide +kernel
theorem dX8_readTag_93 : decode cX8_readTag 93 = .ok (.putfield 89, 3) := by decide +kernel
theorem dX8_readTag_96 : decode cX8_readTag 96 = .ok (.lload_n 3, 1) := by decide +kernel
theorem dX8_readTag_97 : decode cX8_readTag 97 = .ok (.ldc2_w 167, 3) := by decide +kernel
theorem dX8_readTag_100 : decode cX8_readTag 100 = .ok (.lcmp, 1) := by decide +kernel
theorem dX8_readTag_101 : decode cX8_readTag 101 = .ok (.ifCond .eq 11, 3) := by decide +kernel
theorem dX8_readTag_104 : decode cX8_readTag 104 = .ok (.lload_n 3, 1) := by decide +kernel
theorem dX8_readTag_105 : decode cX8_readTag 105 = .ok (.ldc2_w 169, 3) := by decide +kernel
theorem dX8_readTag_108 : decode cX8_readTag 108 = .ok (.lcmp, 1) := by decide +kernel
theorem dX8_readTag_109 : decode cX8_readTag 109 = .ok (.ifCond .ne 9, 3) := by decide +kernel
theorem dX8_readTag_112 : decode cX8_readTag 112 = .ok (.aload_n 0, 1) := by decide +kernel
theorem dX8_readTag_113 : decode cX8_readTag 113 = .ok (.bipush 32, 2) := by decide +kernel
theorem dX8_readTag_115 : decode cX8_readTag 115 = .ok (.invokevirtual 171, 3) := by decide +kernel
theorem dX8_readTag_118 : decode cX8_readTag 118 = .ok (.iload_n 1, 1) := by decide +kernel
theorem dX8_readTag_119 : decode cX8_readTag 119 = .ok (.ifCond .ne 32, 3) := by decide +kernel
theorem dX8_readTag_122 : decode cX8_readTag 122 = .ok (.lload_n 3, 1) := by decide +kernel
theorem dX8_readTag_123 : decode cX8_readTag 123 = .ok (.ldc2_w 174, 3) := by decide +kernel
theorem dX8_readTag_126 : decode cX8_readTag 126 = .ok (.lcmp, 1) := by decide +kernel
theorem dX8_readTag_127 : decode cX8_readTag 127 = .ok (.ifCond .eq 19, 3) := by decide +kernel
theorem dX8_readTag_130 : decode cX8_readTag 130 = .ok (.lload_n 3, 1) := by decide +kernel
theorem dX8_readTag_131 : decode cX8_readTag 131 = .ok (.ldc2_w 176, 3) := by decide +kernel
theorem dX8_readTag_134 : decode cX8_readTag 134 = .ok (.lcmp, 1) := by decide +kernel
theorem dX8_readTag_135 : decode cX8_readTag 135 = .ok (.ifCond .eq 11, 3) := by decide +kernel
theorem dX8_readTag_138 : decode cX8_readTag 138 = .ok (.lload_n 3, 1) := by decide +kernel
theorem dX8_readTag_139 : decode cX8_readTag 139 = .ok (.ldc2_w 178, 3) := by decide +kernel
theorem dX8_readTag_142 : decode cX8_readTag 142 = .ok (.lcmp, 1) := by decide +kernel
theorem dX8_readTag_143 : decode cX8_readTag 143 = .ok (.ifCond .ne 8, 3) := by decide +kernel
theorem dX8_readTag_146 : decode cX8_readTag 146 = .ok (.aload_n 0, 1) := by decide +kernel
theorem dX8_readTag_147 : decode cX8_readTag 147 = .ok (.lload_n 3, 1) := by decide +kernel
theorem dX8_readTag_148 : decode cX8_readTag 148 = .ok (.invokevirtual 180, 3) := by decide +kernel
theorem dX8_readTag_151 : decode cX8_readTag 151 = .ok (.return_, 1) := by decide +kernel
set_option maxRecDepth 20000 in
theorem ggX8_skip_X8_lengthOf : GoodIn wsX8_skip wsX8_lengthOf := goodIn_r _ [7] (by decide +kernel) (by decide +kernel)
set_option maxRecDepth 20000 in
theorem gX8_skip_X8_lengthOf : GoodIn wsX8_skip (va_wsS RX8 102 yX8_lengthOf wsX8_lengthOf) := goodIn_app (goodIn_of _ (by decide +kernel)) ggX8_skip_X8_lengthOf
set_option maxRecDepth 20000 in
theorem ggX8_skip_X8_look : GoodIn wsX8_skip wsX8_look := goodIn_r _ [11, 2, 3, 35, 36, 37, 38, 39, 40, 41, 42, 43, 44, 45, 46, 47, 48, 49, 50, 51, 52, 53, 54, 55, 56, 57, 58, 59, 60] (by decide +kernel) (by decide +kernel)
set_option maxRecDepth 20000 in
theorem gX8_skip_X8_look : GoodIn wsX8_skip (wsV RX8 106 RX8 yX8_look wsX8_look) := goodIn_app (goodIn_of _ (by decide +kernel)) ggX8_skip_X8_look
set_option maxRecDepth 20000 in
theorem ggX8_skip_X8_stands : GoodIn wsX8_skip wsX8_stands := goodIn_r _ [15, 16, 4, 5, 6, 7, 8, 9, 10, 11, 2, 3, 17, 18, 19, 20, 21, 22, 35, 36, 37, 38, 39, 40, 41, 42, 43, 44, 45, 46, 47, 48, 49, 50, 51, 52, 53, 54, 55, 56, 57, 58, 59, 60] (by decide +kernel) (by decide +kernel)
set_option maxRecDepth 20000 in
theorem gX8_skip_X8_stands : GoodIn wsX8_skip (wsV RX8 117 RX8 yX8_stands wsX8_stands) := goodIn_app (goodIn_of _ (by decide +kernel)) ggX8_skip_X8_stands
set_option maxRecDepth 20000 in
theorem ggX8_skip_X8_isWord : GoodIn wsX8_skip wsX8_isWord := goodIn_r _ [25, 26, 27, 6, 28, 29, 30, 31, 32, 33, 34] (by decide +kernel) (by decide +kernel)
set_option maxRecDepth 20000 in
theorem gX8_skip_X8_isWord : GoodIn wsX8_skip (va_wsS RX8 184 yX8_isWord wsX8_isWord) := goodIn_app (goodIn_of _ (by decide +kernel)) ggX8_skip_X8_isWord
theorem dX8_skip_0 : decode cX8_skip 0 = .ok (.lload_n 1, 1) := by decide +kernel
theorem dX8_skip_1 : decode cX8_skip 1 = .ok (.invokestatic 102, 3) := by decide +kernel
theorem dX8_skip_4 : decode cX8_skip 4 = .ok (.istore_n 3, 1) := by decide +kernel
theorem dX8_skip_5 : decode cX8_skip 5 = .ok (.aload_n 0, 1) := by decide +kernel
theorem dX8_skip_6 : decode cX8_skip 6 = .ok (.getfield 150, 3) := by decide +kernel
theorem dX8_skip_9 : decode cX8_skip 9 = .ok (.aload_n 0, 1) := by decide +kernel
theorem dX8_skip_10 : decode cX8_skip 10 = .ok (.getfield 64, 3) := by decide +kernel
theorem dX8_skip_13 : decode cX8_skip 13 = .ok (.if_icmp .ge 78, 3) := by decide +kernel
theorem dX8_skip_16 : decode cX8_skip 16 = .ok (.aload_n 0, 1) := by decide +kernel
theorem dX8_skip_17 : decode cX8_skip 17 = .ok (.getfield 7, 3) := by decide +kernel
theorem dX8_skip_20 : decode cX8_skip 20 = .ok (.aload_n 0, 1) := by decide +kernel
theorem dX8_skip_21 : decode cX8_skip 21 = .ok (.getfield 150, 3) := by decide +kernel
theorem dX8_skip_24 : decode cX8_skip 24 = .ok (.iaload, 1) := by decide +kernel
theorem dX8_skip_25 : decode cX8_skip 25 = .ok (.bipush 60, 2) := by decide +kernel
theorem dX8_skip_27 : decode cX8_skip 27 = .ok (.if_icmp .ne 51, 3) := by decide +kernel
theorem dX8_skip_30 : decode cX8_skip 30 = .ok (.aload_n 0, 1) := by decide +kernel
theorem dX8_skip_31 : decode cX8_skip 31 = .ok (.aload_n 0, 1) := by decide +kernel
theorem dX8_skip_32 : decode cX8_skip 32 = .ok (.getfield 150, 3) := by decide +kernel
theorem dX8_skip_35 : decode cX8_skip 35 = .ok (.iconst 1, 1) := by decide +kernel
theorem dX8_skip_36 : decode cX8_skip 36 = .ok (.iadd, 1) := by decide +kernel
theorem dX8_skip_37 : decode cX8_skip 37 = .ok (.invokevirtual 106, 3) := by decide +kernel
theorem dX8_skip_40 : decode cX8_skip 40 = .ok (.bipush 47, 2) := by decide +kernel
theorem dX8_skip_42 : decode cX8_skip 42 = .ok (.if_icmp .ne 36, 3) := by decide +kernel
theorem dX8_skip_45 : decode cX8_skip 45 = .ok (.aload_n 0, 1) := by decide +kernel
theorem dX8_skip_46 : decode cX8_skip 46 = .ok (.aload_n 0, 1) := by decide +kernel
theorem dX8_skip_47 : decode cX8_skip 47 = .ok (.getfield 150, 3) := by decide +kernel
theorem dX8_skip_50 : decode cX8_skip 50 = .ok (.iconst 2, 1) := by decide +kernel
theorem dX8_skip_51 : decode cX8_skip 51 = .ok (.iadd, 1) := by decide +kernel
theorem dX8_skip_52 : decode cX8_skip 52 = .ok (.lload_n 1, 1) := by decide +kernel
theorem dX8_skip_53 : decode cX8_skip 53 = .ok (.iconst 1, 1) := by decide +kernel
theorem dX8_skip_54 : decode cX8_skip 54 = .ok (.invokevirtual 117, 3) := by decide +kernel
theorem dX8_skip_57 : decode cX8_skip 57 = .ok (.ifCond .eq 21, 3) := by decide +kernel
theorem dX8_skip_60 : decode cX8_skip 60 = .ok (.aload_n 0, 1) := by decide +kernel
theorem dX8_skip_61 : decode cX8_skip 61 = .ok (.aload_n 0, 1) := by decide +kernel
theorem dX8_skip_62 : decode cX8_skip 62 = .ok (.getfield 150, 3) := by decide +kernel
theorem dX8_skip_65 : decode cX8_skip 65 = .ok (.iconst 2, 1) := by decide +kernel
theorem dX8_skip_66 : decode cX8_skip 66 = .ok (.iadd, 1) := by decide +kernel
theorem dX8_skip_67 : decode cX8_skip 67 = .ok (.iload_n 3, 1) := by decide +kernel
theorem dX8_skip_68 : decode cX8_skip 68 = .ok (.iadd, 1) := by decide +kernel
theorem dX8_skip_69 : decode cX8_skip 69 = .ok (.invokevirtual 106, 3) := by decide +kernel
theorem dX8_skip_72 : decode cX8_skip 72 = .ok (.invokestatic 184, 3) := by decide +kernel
theorem dX8_skip_75 : decode cX8_skip 75 = .ok (.ifCond .eq 16, 3) := by decide +kernel
theorem dX8_skip_78 : decode cX8_skip 78 = .ok (.aload_n 0, 1) := by decide +kernel
theorem dX8_skip_79 : decode cX8_skip 79 = .ok (.dup, 1) := by decide +kernel
theorem dX8_skip_80 : decode cX8_skip 80 = .ok (.getfield 150, 3) := by decide +kernel
theorem dX8_skip_83 : decode cX8_skip 83 = .ok (.iconst 1, 1) := by decide +kernel
theorem dX8_skip_84 : decode cX8_skip 84 = .ok (.iadd, 1) := by decide +kernel
theorem dX8_skip_85 : decode cX8_skip 85 = .ok (.putfield 150, 3) := by decide +kernel
theorem dX8_skip_88 : decode cX8_skip 88 = .ok (.goto (-83), 3) := by decide +kernel
theorem dX8_skip_91 : decode cX8_skip 91 = .ok (.return_, 1) := by decide +kernel
set_option maxRecDepth 20000 in
theorem ggX8_skipTo_X8_look : GoodIn wsX8_skipTo wsX8_look := goodIn_r _ [8, 1, 2, 9, 10, 11, 12, 13, 14, 15, 16, 17, 18, 19, 20, 21, 22, 23, 24, 25, 26, 27, 28, 29, 30, 31, 32, 33, 34] (by decide +kernel) (by decide +kernel)
set_option maxRecDepth 20000 in
theorem gX8_skipTo_X8_look : GoodIn wsX8_skipTo (wsV RX8 106 RX8 yX8_look wsX8_look) := goodIn_app (goodIn_of _ (by decide +kernel)) ggX8_skipTo_X8_look
theorem dX8_skipTo_0 : decode cX8_skipTo 0 = .ok (.iload_n 1, 1) := by decide +kernel
theorem dX8_skipTo_1 : decode cX8_skipTo 1 = .ok (.istore_n 3, 1) := by decide +kernel
theorem dX8_skipTo_2 : decode cX8_skipTo 2 = .ok (.iload_n 3, 1) := by decide +kernel
theorem dX8_skipTo_3 : decode cX8_skipTo 3 = .ok (.aload_n 0, 1) := by decide +kernel
theorem dX8_skipTo_4 : decode cX8_skipTo 4 = .ok (.getfield 64, 3) := by decide +kernel
theorem dX8_skipTo_7 : decode cX8_skipTo 7 = .ok (.if_icmp .ge 62, 3) := by decide +kernel
theorem dX8_skipTo_10 : decode cX8_skipTo 10 = .ok (.iload_n 2, 1) := by decide +kernel
theorem dX8_skipTo_11 : decode cX8_skipTo 11 = .ok (.ifCond .eq 41, 3) := by decide +kernel
theorem dX8_skipTo_14 : decode cX8_skipTo 14 = .ok (.aload_n 0, 1) := by decide +kernel
theorem dX8_skipTo_15 : decode cX8_skipTo 15 = .ok (.getfield 7, 3) := by decide +kernel
theorem dX8_skipTo_18 : decode cX8_skipTo 18 = .ok (.iload_n 3, 1) := by decide +kernel
theorem dX8_skipTo_19 : decode cX8_skipTo 19 = .ok (.iaload, 1) := by decide +kernel
theorem dX8_skipTo_20 : decode cX8_skipTo 20 = .ok (.bipush 45, 2) := by decide +kernel
theorem dX8_skipTo_22 : decode cX8_skipTo 22 = .ok (.if_icmp .ne 41, 3) := by decide +kernel
theorem dX8_skipTo_25 : decode cX8_skipTo 25 = .ok (.aload_n 0, 1) := by decide +kernel
theorem dX8_skipTo_26 : decode cX8_skipTo 26 = .ok (.iload_n 3, 1) := by decide +kernel
theorem dX8_skipTo_27 : decode cX8_skipTo 27 = .ok (.iconst 1, 1) := by decide +kernel
theorem dX8_skipTo_28 : decode cX8_skipTo 28 = .ok (.iadd, 1) := by decide +kernel
theorem dX8_skipTo_29 : decode cX8_skipTo 29 = .ok (.invokevirtual 106, 3) := by decide +kernel
theorem dX8_skipTo_32 : decode cX8_skipTo 32 = .ok (.bipush 45, 2) := by decide +kernel
theorem dX8_skipTo_34 : decode cX8_skipTo 34 = .ok (.if_icmp .ne 29, 3) := by decide +kernel
theorem dX8_skipTo_37 : decode cX8_skipTo 37 = .ok (.aload_n 0, 1) := by decide +kernel
theorem dX8_skipTo_38 : decode cX8_skipTo 38 = .ok (.iload_n 3, 1) := by decide +kernel
theorem dX8_skipTo_39 : decode cX8_skipTo 39 = .ok (.iconst 2, 1) := by decide +kernel
theorem dX8_skipTo_40 : decode cX8_skipTo 40 = .ok (.iadd, 1) := by decide +kernel
theorem dX8_skipTo_41 : decode cX8_skipTo 41 = .ok (.invokevirtual 106, 3) := by decide +kernel
theorem dX8_skipTo_44 : decode cX8_skipTo 44 = .ok (.bipush 62, 2) := by decide +kernel
theorem dX8_skipTo_46 : decode cX8_skipTo 46 = .ok (.if_icmp .ne 17, 3) := by decide +kernel
theorem dX8_skipTo_49 : decode cX8_skipTo 49 = .ok (.goto 20, 3) := by decide +kernel
theorem dX8_skipTo_52 : decode cX8_skipTo 52 = .ok (.aload_n 0, 1) := by decide +kernel
theorem dX8_skipTo_53 : decode cX8_skipTo 53 = .ok (.getfield 7, 3) := by decide +kernel
theorem dX8_skipTo_56 : decode cX8_skipTo 56 = .ok (.iload_n 3, 1) := by decide +kernel
theorem dX8_skipTo_57 : decode cX8_skipTo 57 = .ok (.iaload, 1) := by decide +kernel
theorem dX8_skipTo_58 : decode cX8_skipTo 58 = .ok (.bipush 62, 2) := by decide +kernel
theorem dX8_skipTo_60 : decode cX8_skipTo 60 = .ok (.if_icmp .eq 9, 3) := by decide +kernel
theorem dX8_skipTo_63 : decode cX8_skipTo 63 = .ok (.iinc 3 1, 3) := by decide +kernel
theorem dX8_skipTo_66 : decode cX8_skipTo 66 = .ok (.goto (-64), 3) := by decide +kernel
theorem dX8_skipTo_69 : decode cX8_skipTo 69 = .ok (.aload_n 0, 1) := by decide +kernel
theorem dX8_skipTo_70 : decode cX8_skipTo 70 = .ok (.iload_n 3, 1) := by decide +kernel
theorem dX8_skipTo_71 : decode cX8_skipTo 71 = .ok (.iload_n 2, 1) := by decide +kernel
theorem dX8_skipTo_72 : decode cX8_skipTo 72 = .ok (.ifCond .eq 7, 3) := by decide +kernel
theorem dX8_skipTo_75 : decode cX8_skipTo 75 = .ok (.iconst 3, 1) := by decide +kernel
theorem dX8_skipTo_76 : decode cX8_skipTo 76 = .ok (.goto 4, 3) := by decide +kernel
theorem dX8_skipTo_79 : decode cX8_skipTo 79 = .ok (.iconst 1, 1) := by decide +kernel
theorem dX8_skipTo_80 : decode cX8_skipTo 80 = .ok (.iadd, 1) := by decide +kernel
theorem dX8_skipTo_81 : decode cX8_skipTo 81 = .ok (.putfield 150, 3) := by decide +kernel
theorem dX8_skipTo_84 : decode cX8_skipTo 84 = .ok (.aload_n 0, 1) := by decide +kernel
theorem dX8_skipTo_85 : decode cX8_skipTo 85 = .ok (.getfield 150, 3) := by decide +kernel
theorem dX8_skipTo_88 : decode cX8_skipTo 88 = .ok (.aload_n 0, 1) := by decide +kernel
theorem dX8_skipTo_89 : decode cX8_skipTo 89 = .ok (.getfield 64, 3) := by decide +kernel
theorem dX8_skipTo_92 : decode cX8_skipTo 92 = .ok (.if_icmp .le 11, 3) := by decide +kernel
theorem dX8_skipTo_95 : decode cX8_skipTo 95 = .ok (.aload_n 0, 1) := by decide +kernel
theorem dX8_skipTo_96 : decode cX8_skipTo 96 = .ok (.aload_n 0, 1) := by decide +kernel
theorem dX8_skipTo_97 : decode cX8_skipTo 97 = .ok (.getfield 64, 3) := by decide +kernel
theorem dX8_skipTo_100 : decode cX8_skipTo 100 = .ok (.putfield 150, 3) := by decide +kernel
theorem dX8_skipTo_103 : decode cX8_skipTo 103 = .ok (.return_, 1) := by decide +kernel
set_option maxRecDepth 20000 in
theorem ggX8_readLess_X8_look : GoodIn wsX8_readLess wsX8_look := goodIn_r _ [6, 7, 8, 103, 104, 105, 106, 107, 108, 109, 110, 111, 112, 113, 114, 115, 116, 117, 118, 119, 120, 121, 122, 123, 124, 125, 126, 127, 128] (by decide +kernel) (by decide +kernel)
set_option maxRecDepth 20000 in
theorem gX8_readLess_X8_look : GoodIn wsX8_readLess (wsV RX8 106 RX8 yX8_look wsX8_look) := goodIn_app (goodIn_of _ (by decide +kernel)) ggX8_readLess_X8_look
set_option maxRecDepth 20000 in
theorem ggX8_readLess_X8_skipTo : GoodIn wsX8_readLess wsX8_skipTo := goodIn_r _ [12, 7, 8, 1, 2, 3, 4, 5, 6, 103, 104, 105, 106, 107, 108, 109, 110, 111, 112, 113, 114, 115, 116, 117, 118, 119, 120, 121, 122, 123, 124, 125, 126, 127, 128] (by decide +kernel) (by decide +kernel)
set_option maxRecDepth 20000 in
theorem gX8_readLess_X8_skipTo : GoodIn wsX8_readLess (wsV RX8 187 RX8 yX8_skipTo wsX8_skipTo) := goodIn_app (goodIn_of _ (by decide +kernel)) ggX8_readLess_X8_skipTo
set_option maxRecDepth 20000 in
theorem ggX8_readLess_X8_isPlain : GoodIn wsX8_readLess wsX8_isPlain := goodIn_r _ [15] (by decide +kernel) (by decide +kernel)
set_option maxRecDepth 20000 in
theorem gX8_readLess_X8_isPlain : GoodIn wsX8_readLess (va_wsS RX8 72 yX8_isPlain wsX8_isPlain) := goodIn_app (goodIn_of _ (by decide +kernel)) ggX8_readLess_X8_isPlain
set_option maxRecDepth 20000 in
theorem ggX8_readLess_X8_readTag : GoodIn wsX8_readLess wsX8_readTag := goodIn_r _ [19, 1, 20, 21, 22, 23, 24, 25, 26, 2, 3, 4, 5, 6, 7, 8, 27, 28, 29, 30, 31, 32, 13, 14, 15, 33, 34, 35, 36, 37, 38, 39, 40, 41, 42, 43, 44, 45, 46, 47, 48, 49, 50, 51, 52, 53, 54, 55, 56, 57, 58, 59, 60, 61, 62, 63, 64, 65, 66, 67, 68, 69, 70, 71, 72, 73, 74, 75, 76, 77, 78, 79, 80, 81, 82, 83, 84, 85, 86, 87, 88, 89, 90, 91, 92, 93, 94, 95, 96, 97, 98, 99, 100, 101, 102, 103, 104, 105, 106, 107, 108, 109, 110, 111, 112, 113, 114, 115, 116, 117, 118, 119, 120, 121, 122, 123, 124, 125, 126, 127, 128] (by decide +kernel) (by decide +kernel)
set_option maxRecDepth 20000 in
theorem gX8_readLess_X8_readTag : GoodIn wsX8_readLess (wsV RX8 191 RX8 yX8_readTag wsX8_readTag) := goodIn_app (goodIn_of _ (by decide +kernel)) ggX8_readLess_X8_readTag
set_option maxRecDepth 20000 in
theorem ggX8_readLess_X8_write : GoodIn wsX8_readLess wsX8_write := goodIn_r _ [88, 84, 75, 103, 104, 105, 106, 107, 108, 109, 110, 111, 112, 113, 114, 115, 116, 117, 118, 119, 120, 121, 122, 123, 124, 125, 126, 127, 128] (by decide +kernel) (by decide +kernel)
set_option maxRecDepth 20000 in
theorem gX8_readLess_X8_write : GoodIn wsX8_readLess (wsV RX8 93 RX8 yX8_write wsX8_write) := goodIn_app (goodIn_of _ (by decide +kernel)) ggX8_readLess_X8_write
theorem dX8_readLess_0 : decode cX8_readLess 0 = .ok (.aload_n 0, 1) := by decide +kernel
theorem dX8_readLess_1 : decode cX8_readLess 1 = .ok (.aload_n 0, 1) := by decide +kernel
theorem dX8_readLess_2 : decode cX8_readLess 2 = .ok (.getfield 150, 3) := by decide +kernel
theorem dX8_readLess_5 : decode cX8_readLess 5 = .ok (.iconst 1, 1) := by decide +kernel
theorem dX8_readLess_6 : decode cX8_readLess 6 = .ok (.iadd, 1) := by decide +kernel
theorem dX8_readLess_7 : decode cX8_readLess 7 = .ok (.invokevirtual 106, 3) := by decide +kernel
theorem dX8_readLess_10 : decode cX8_readLess 10 = .ok (.istore_n 1, 1) := by decide +kernel
theorem dX8_readLess_11 : decode cX8_readLess 11 = .ok (.iload_n 1, 1) := by decide +kernel
theorem dX8_readLess_12 : decode cX8_readLess 12 = .ok (.bipush 33, 2) := by decide +kernel
theorem dX8_readLess_14 : decode cX8_readLess 14 = .ok (.if_icmp .ne 47, 3) := by decide +kernel
theorem dX8_readLess_17 : decode cX8_readLess 17 = .ok (.aload_n 0, 1) := by decide +kernel
theorem dX8_readLess_18 : decode cX8_readLess 18 = .ok (.aload_n 0, 1) := by decide +kernel
theorem dX8_readLess_19 : decode cX8_readLess 19 = .ok (.getfield 150, 3) := by decide +kernel
theorem dX8_readLess_22 : decode cX8_readLess 22 = .ok (.iconst 2, 1) := by decide +kernel
theorem dX8_readLess_23 : decode cX8_readLess 23 = .ok (.iadd, 1) := by decide +kernel
theorem dX8_readLess_24 : decode cX8_readLess 24 = .ok (.invokevirtual 106, 3) := by decide +kernel
theorem dX8_readLess_27 : decode cX8_readLess 27 = .ok (.bipush 45, 2) := by decide +kernel
theorem dX8_readLess_29 : decode cX8_readLess 29 = .ok (.if_icmp .ne 32, 3) := by decide +kernel
theorem dX8_readLess_32 : decode cX8_readLess 32 = .ok (.aload_n 0, 1) := by decide +kernel
theorem dX8_readLess_33 : decode cX8_readLess 33 = .ok (.aload_n 0, 1) := by decide +kernel
theorem dX8_readLess_34 : decode cX8_readLess 34 = .ok (.getfield 150, 3) := by decide +kernel
theorem dX8_readLess_37 : decode cX8_readLess 37 = .ok (.iconst 3, 1) := by decide +kernel
theorem dX8_readLess_38 : decode cX8_readLess 38 = .ok (.iadd, 1) := by decide +kernel
theorem dX8_readLess_39 : decode cX8_readLess 39 = .ok (.invokevirtual 106, 3) := by decide +kernel
theorem dX8_readLess_42 : decode cX8_readLess 42 = .ok (.bipush 45, 2) := by decide +kernel
theorem dX8_readLess_44 : decode cX8_readLess 44 = .ok (.if_icmp .ne 17, 3) := by decide +kernel
theorem dX8_readLess_47 : decode cX8_readLess 47 = .ok (.aload_n 0, 1) := by decide +kernel
theorem dX8_readLess_48 : decode cX8_readLess 48 = .ok (.aload_n 0, 1) := by decide +kernel
theorem dX8_readLess_49 : decode cX8_readLess 49 = .ok (.getfield 150, 3) := by decide +kernel
theorem dX8_readLess_52 : decode cX8_readLess 52 = .ok (.iconst 4, 1) := by decide +kernel
theorem dX8_readLess_53 : decode cX8_readLess 53 = .ok (.iadd, 1) := by decide +kernel
theorem dX8_readLess_54 : decode cX8_readLess 54 = .ok (.iconst 1, 1) := by decide +kernel
theorem dX8_readLess_55 : decode cX8_readLess 55 = .ok (.invokevirtual 187, 3) := by decide +kernel
theorem dX8_readLess_58 : decode cX8_readLess 58 = .ok (.goto 81, 3) := by decide +kernel
theorem dX8_readLess_61 : decode cX8_readLess 61 = .ok (.iload_n 1, 1) := by decide +kernel
theorem dX8_readLess_62 : decode cX8_readLess 62 = .ok (.bipush 33, 2) := by decide +kernel
theorem dX8_readLess_64 : decode cX8_readLess 64 = .ok (.if_icmp .eq 9, 3) := by decide +kernel
theorem dX8_readLess_67 : decode cX8_readLess 67 = .ok (.iload_n 1, 1) := by decide +kernel
theorem dX8_readLess_68 : decode cX8_readLess 68 = .ok (.bipush 63, 2) := by decide +kernel
theorem dX8_readLess_70 : decode cX8_readLess 70 = .ok (.if_icmp .ne 17, 3) := by decide +kernel
theorem dX8_readLess_73 : decode cX8_readLess 73 = .ok (.aload_n 0, 1) := by decide +kernel
theorem dX8_readLess_74 : decode cX8_readLess 74 = .ok (.aload_n 0, 1) := by decide +kernel
theorem dX8_readLess_75 : decode cX8_readLess 75 = .ok (.getfield 150, 3) := by decide +kernel
theorem dX8_readLess_78 : decode cX8_readLess 78 = .ok (.iconst 2, 1) := by decide +kernel
theorem dX8_readLess_79 : decode cX8_readLess 79 = .ok (.iadd, 1) := by decide +kernel
theorem dX8_readLess_80 : decode cX8_readLess 80 = .ok (.iconst 0, 1) := by decide +kernel
theorem dX8_readLess_81 : decode cX8_readLess 81 = .ok (.invokevirtual 187, 3) := by decide +kernel
theorem dX8_readLess_84 : decode cX8_readLess 84 = .ok (.goto 55, 3) := by decide +kernel
theorem dX8_readLess_87 : decode cX8_readLess 87 = .ok (.iload_n 1, 1) := by decide +kernel
theorem dX8_readLess_88 : decode cX8_readLess 88 = .ok (.invokestatic 72, 3) := by decide +kernel
theorem dX8_readLess_91 : decode cX8_readLess 91 = .ok (.ifCond .ne 25, 3) := by decide +kernel
theorem dX8_readLess_94 : decode cX8_readLess 94 = .ok (.iload_n 1, 1) := by decide +kernel
theorem dX8_readLess_95 : decode cX8_readLess 95 = .ok (.bipush 47, 2) := by decide +kernel
theorem dX8_readLess_97 : decode cX8_readLess 97 = .ok (.if_icmp .ne 26, 3) := by decide +kernel
theorem dX8_readLess_100 : decode cX8_readLess 100 = .ok (.aload_n 0, 1) := by decide +kernel
theorem dX8_readLess_101 : decode cX8_readLess 101 = .ok (.aload_n 0, 1) := by decide +kernel
theorem dX8_readLess_102 : decode cX8_readLess 102 = .ok (.getfield 150, 3) := by decide +kernel
theorem dX8_readLess_105 : decode cX8_readLess 105 = .ok (.iconst 2, 1) := by decide +kernel
theorem dX8_readLess_106 : decode cX8_readLess 106 = .ok (.iadd, 1) := by decide +kernel
theorem dX8_readLess_107 : decode cX8_readLess 107 = .ok (.invokevirtual 106, 3) := by decide +kernel
theorem dX8_readLess_110 : decode cX8_readLess 110 = .ok (.invokestatic 72, 3) := by decide +kernel
theorem dX8_readLess_113 : decode cX8_readLess 113 = .ok (.ifCond .eq 10, 3) := by decide +kernel
theorem dX8_readLess_116 : decode cX8_readLess 116 = .ok (.aload_n 0, 1) := by decide +kernel
theorem dX8_readLess_117 : decode cX8_readLess 117 = .ok (.invokevirtual 191, 3) := by decide +kernel
theorem dX8_readLess_120 : decode cX8_readLess 120 = .ok (.goto 19, 3) := by decide +kernel
theorem dX8_readLess_123 : decode cX8_readLess 123 = .ok (.aload_n 0, 1) := by decide +kernel
theorem dX8_readLess_124 : decode cX8_readLess 124 = .ok (.bipush 60, 2) := by decide +kernel
theorem dX8_readLess_126 : decode cX8_readLess 126 = .ok (.invokevirtual 93, 3) := by decide +kernel
theorem dX8_readLess_129 : decode cX8_readLess 129 = .ok (.aload_n 0, 1) := by decide +kernel
theorem dX8_readLess_130 : decode cX8_readLess 130 = .ok (.dup, 1) := by decide +kernel
theorem dX8_readLess_131 : decode cX8_readLess 131 = .ok (.getfield 150, 3) := by decide +kernel
theorem dX8_readLess_134 : decode cX8_readLess 134 = .ok (.iconst 1, 1) := by decide +kernel
theorem dX8_readLess_135 : decode cX8_readLess 135 = .ok (.iadd, 1) := by decide +kernel
theorem dX8_readLess_136 : decode cX8_readLess 136 = .ok (.putfield 150, 3) := by decide +kernel
theorem dX8_readLess_139 : decode cX8_readLess 139 = .ok (.return_, 1) := by decide +kernel
set_option maxRecDepth 20000 in
theorem ggX8_worth_X8_isDigit : GoodIn wsX8_worth wsX8_isDigit := goodIn_r _ [4] (by decide +kernel) (by decide +kernel)
set_option maxRecDepth 20000 in
theorem gX8_worth_X8_isDigit : GoodIn wsX8_worth (va_wsS RX8 79 yX8_isDigit wsX8_isDigit) := goodIn_app (goodIn_of _ (by decide +kernel)) ggX8_worth_X8_isDigit
theorem dX8_worth_0 : decode cX8_worth 0 = .ok (.iload_n 0, 1) := by decide +kernel
theorem dX8_worth_1 : decode cX8_worth 1 = .ok (.invokestatic 79, 3) := by decide +kernel
theorem dX8_worth_4 : decode cX8_worth 4 = .ok (.ifCond .eq 8, 3) := by decide +kernel
theorem dX8_worth_7 : decode cX8_worth 7 = .ok (.iload_n 0, 1) := by decide +kernel
theorem dX8_worth_8 : decode cX8_worth 8 = .ok (.bipush 48, 2) := by decide +kernel
theorem dX8_worth_10 : decode cX8_worth 10 = .ok (.isub, 1) := by decide +kernel
theorem dX8_worth_11 : decode cX8_worth 11 = .ok (.ireturn, 1) := by decide +kernel
theorem dX8_worth_12 : decode cX8_worth 12 = .ok (.iload_n 1, 1) := by decide +kernel
theorem dX8_worth_13 : decode cX8_worth 13 = .ok (.bipush 10, 2) := by decide +kernel
theorem dX8_worth_15 : decode cX8_worth 15 = .ok (.if_icmp .ne 5, 3) := by decide +kernel
theorem dX8_worth_18 : decode cX8_worth 18 = .ok (.iconst (-1), 1) := by decide +kernel
theorem dX8_worth_19 : decode cX8_worth 19 = .ok (.ireturn, 1) := by decide +kernel
theorem dX8_worth_20 : decode cX8_worth 20 = .ok (.iload_n 0, 1) := by decide +kernel
theorem dX8_worth_21 : decode cX8_worth 21 = .ok (.bipush 97, 2) := by decide +kernel
theorem dX8_worth_23 : decode cX8_worth 23 = .ok (.if_icmp .lt 19, 3) := by decide +kernel
theorem dX8_worth_26 : decode cX8_worth 26 = .ok (.iload_n 0, 1) := by decide +kernel
theorem dX8_worth_27 : decode cX8_worth 27 = .ok (.bipush 102, 2) := by decide +kernel
theorem dX8_worth_29 : decode cX8_worth 29 = .ok (.if_icmp .gt 13, 3) := by decide +kernel
theorem dX8_worth_32 : decode cX8_worth 32 = .ok (.iload_n 0, 1) := by decide +kernel
theorem dX8_worth_33 : decode cX8_worth 33 = .ok (.bipush 97, 2) := by decide +kernel
theorem dX8_worth_35 : decode cX8_worth 35 = .ok (.isub, 1) := by decide +kernel
theorem dX8_worth_36 : decode cX8_worth 36 = .ok (.bipush 10, 2) := by decide +kernel
theorem dX8_worth_38 : decode cX8_worth 38 = .ok (.iadd, 1) := by decide +kernel
theorem dX8_worth_39 : decode cX8_worth 39 = .ok (.goto 26, 3) := by decide +kernel
theorem dX8_worth_42 : decode cX8_worth 42 = .ok (.iload_n 0, 1) := by decide +kernel
theorem dX8_worth_43 : decode cX8_worth 43 = .ok (.bipush 65, 2) := by decide +kernel
theorem dX8_worth_45 : decode cX8_worth 45 = .ok (.if_icmp .lt 19, 3) := by decide +kernel
theorem dX8_worth_48 : decode cX8_worth 48 = .ok (.iload_n 0, 1) := by decide +kernel
theorem dX8_worth_49 : decode cX8_worth 49 = .ok (.bipush 70, 2) := by decide +kernel
theorem dX8_worth_51 : decode cX8_worth 51 = .ok (.if_icmp .gt 13, 3) := by decide +kernel
theorem dX8_worth_54 : decode cX8_worth 54 = .ok (.iload_n 0, 1) := by decide +kernel
theorem dX8_worth_55 : decode cX8_worth 55 = .ok (.bipush 65, 2) := by decide +kernel
theorem dX8_worth_57 : decode cX8_worth 57 = .ok (.isub, 1) := by decide +kernel
theorem dX8_worth_58 : decode cX8_worth 58 = .ok (.bipush 10, 2) := by decide +kernel
theorem dX8_worth_60 : decode cX8_worth 60 = .ok (.iadd, 1) := by decide +kernel
theorem dX8_worth_61 : decode cX8_worth 61 = .ok (.goto 4, 3) := by decide +kernel
theorem dX8_worth_64 : decode cX8_worth 64 = .ok (.iconst (-1), 1) := by decide +kernel
theorem dX8_worth_65 : decode cX8_worth 65 = .ok (.ireturn, 1) := by decide +kernel
set_option maxRecDepth 20000 in
theorem ggX8_readNumber_X8_look : GoodIn wsX8_readNumber wsX8_look := goodIn_r _ [10, 11, 12, 28, 29, 30, 31, 32, 33, 34, 35, 36, 37, 38, 39, 40, 41, 42, 43, 44, 45, 46, 47, 48, 49, 50, 51, 52, 53] (by decide +kernel) (by decide +kernel)
set_option maxRecDepth 20000 in
theorem gX8_readNumber_X8_look : GoodIn wsX8_readNumber (wsV RX8 106 RX8 yX8_look wsX8_look) := goodIn_app (goodIn_of _ (by decide +kernel)) ggX8_readNumber_X8_look
set_option maxRecDepth 20000 in
theorem ggX8_readNumber_X8_worth : GoodIn wsX8_readNumber wsX8_worth := goodIn_r _ [15, 16, 17, 9, 18] (by decide +kernel) (by decide +kernel)
set_option maxRecDepth 20000 in
theorem gX8_readNumber_X8_worth : GoodIn wsX8_readNumber (va_wsS RX8 194 yX8_worth wsX8_worth) := goodIn_app (goodIn_of _ (by decide +kernel)) ggX8_readNumber_X8_worth
set_option maxRecDepth 20000 in
theorem ggX8_readNumber_X8_write : GoodIn wsX8_readNumber wsX8_write := goodIn_r _ [22, 23, 24, 28, 29, 30, 31, 32, 33, 34, 35, 36, 37, 38, 39, 40, 41, 42, 43, 44, 45, 46, 47, 48, 49, 50, 51, 52, 53] (by decide +kernel) (by decide +kernel)
set_option maxRecDepth 20000 in
theorem gX8_readNumber_X8_write : GoodIn wsX8_readNumber (wsV RX8 93 RX8 yX8_write wsX8_write) := goodIn_app (goodIn_of _ (by decide +kernel)) ggX8_readNumber_X8_write
set_option maxRecDepth 20000 in
theorem ggX8_readNumber_X8_within : GoodIn wsX8_readNumber wsX8_within := goodIn_r _ [27] (by decide +kernel) (by decide +kernel)
set_option maxRecDepth 20000 in
theorem gX8_readNumber_X8_within : GoodIn wsX8_readNumber (va_wsS RX8 82 yX8_within wsX8_within) := goodIn_app (goodIn_of _ (by decide +kernel)) ggX8_readNumber_X8_within
theorem dX8_readNumber_0 : decode cX8_readNumber 0 = .ok (.iload_n 1, 1) := by decide +kernel
theorem dX8_readNumber_1 : decode cX8_readNumber 1 = .ok (.istore 4, 2) := by decide +kernel
theorem dX8_readNumber_3 : decode cX8_readNumber 3 = .ok (.iconst 0, 1) := by decide +kernel
theorem dX8_readNumber_4 : decode cX8_readNumber 4 = .ok (.istore 5, 2) := by decide +kernel
theorem dX8_readNumber_6 : decode cX8_readNumber 6 = .ok (.aload_n 0, 1) := by decide +kernel
theorem dX8_readNumber_7 : decode cX8_readNumber 7 = .ok (.iload 4, 2) := by decide +kernel
theorem dX8_readNumber_9 : decode cX8_readNumber 9 = .ok (.invokevirtual 106, 3) := by decide +kernel
theorem dX8_readNumber_12 : decode cX8_readNumber 12 = .ok (.iload_n 2, 1) := by decide +kernel
theorem dX8_readNumber_13 : decode cX8_readNumber 13 = .ok (.invokestatic 194, 3) := by decide +kernel
theorem dX8_readNumber_16 : decode cX8_readNumber 16 = .ok (.ifCond .lt 39, 3) := by decide +kernel
theorem dX8_readNumber_19 : decode cX8_readNumber 19 = .ok (.iload 4, 2) := by decide +kernel
theorem dX8_readNumber_21 : decode cX8_readNumber 21 = .ok (.iload_n 1, 1) := by decide +kernel
theorem dX8_readNumber_22 : decode cX8_readNumber 22 = .ok (.isub, 1) := by decide +kernel
theorem dX8_readNumber_23 : decode cX8_readNumber 23 = .ok (.iload_n 3, 1) := by decide +kernel
theorem dX8_readNumber_24 : decode cX8_readNumber 24 = .ok (.if_icmp .ge 21, 3) := by decide +kernel
theorem dX8_readNumber_27 : decode cX8_readNumber 27 = .ok (.iload_n 2, 1) := by decide +kernel
theorem dX8_readNumber_28 : decode cX8_readNumber 28 = .ok (.iload 5, 2) := by decide +kernel
theorem dX8_readNumber_30 : decode cX8_readNumber 30 = .ok (.imul, 1) := by decide +kernel
theorem dX8_readNumber_31 : decode cX8_readNumber 31 = .ok (.aload_n 0, 1) := by decide +kernel
theorem dX8_readNumber_32 : decode cX8_readNumber 32 = .ok (.iload 4, 2) := by decide +kernel
theorem dX8_readNumber_34 : decode cX8_readNumber 34 = .ok (.invokevirtual 106, 3) := by decide +kernel
theorem dX8_readNumber_37 : decode cX8_readNumber 37 = .ok (.iload_n 2, 1) := by decide +kernel
theorem dX8_readNumber_38 : decode cX8_readNumber 38 = .ok (.invokestatic 194, 3) := by decide +kernel
theorem dX8_readNumber_41 : decode cX8_readNumber 41 = .ok (.iadd, 1) := by decide +kernel
theorem dX8_readNumber_42 : decode cX8_readNumber 42 = .ok (.goto 5, 3) := by decide +kernel
theorem dX8_readNumber_45 : decode cX8_readNumber 45 = .ok (.iload 5, 2) := by decide +kernel
theorem dX8_readNumber_47 : decode cX8_readNumber 47 = .ok (.istore 5, 2) := by decide +kernel
theorem dX8_readNumber_49 : decode cX8_readNumber 49 = .ok (.iinc 4 1, 3) := by decide +kernel
theorem dX8_readNumber_52 : decode cX8_readNumber 52 = .ok (.goto (-46), 3) := by decide +kernel
theorem dX8_readNumber_55 : decode cX8_readNumber 55 = .ok (.iload 4, 2) := by decide +kernel
theorem dX8_readNumber_57 : decode cX8_readNumber 57 = .ok (.iload_n 1, 1) := by decide +kernel
theorem dX8_readNumber_58 : decode cX8_readNumber 58 = .ok (.if_icmp .eq 11, 3) := by decide +kernel
theorem dX8_readNumber_61 : decode cX8_readNumber 61 = .ok (.iload 4, 2) := by decide +kernel
theorem dX8_readNumber_63 : decode cX8_readNumber 63 = .ok (.iload_n 1, 1) := by decide +kernel
theorem dX8_readNumber_64 : decode cX8_readNumber 64 = .ok (.isub, 1) := by decide +kernel
theorem dX8_readNumber_65 : decode cX8_readNumber 65 = .ok (.iload_n 3, 1) := by decide +kernel
theorem dX8_readNumber_66 : decode cX8_readNumber 66 = .ok (.if_icmp .le 20, 3) := by decide +kernel
theorem dX8_readNumber_69 : decode cX8_readNumber 69 = .ok (.aload_n 0, 1) := by decide +kernel
theorem dX8_readNumber_70 : decode cX8_readNumber 70 = .ok (.bipush 38, 2) := by decide +kernel
theorem dX8_readNumber_72 : decode cX8_readNumber 72 = .ok (.invokevirtual 93, 3) := by decide +kernel
theorem dX8_readNumber_75 : decode cX8_readNumber 75 = .ok (.aload_n 0, 1) := by decide +kernel
theorem dX8_readNumber_76 : decode cX8_readNumber 76 = .ok (.dup, 1) := by decide +kernel
theorem dX8_readNumber_77 : decode cX8_readNumber 77 = .ok (.getfield 150, 3) := by decide +kernel
theorem dX8_readNumber_80 : decode cX8_readNumber 80 = .ok (.iconst 1, 1) := by decide +kernel
theorem dX8_readNumber_81 : decode cX8_readNumber 81 = .ok (.iadd, 1) := by decide +kernel
theorem dX8_readNumber_82 : decode cX8_readNumber 82 = .ok (.putfield 150, 3) := by decide +kernel
theorem dX8_readNumber_85 : decode cX8_readNumber 85 = .ok (.return_, 1) := by decide +kernel
theorem dX8_readNumber_86 : decode cX8_readNumber 86 = .ok (.aload_n 0, 1) := by decide +kernel
theorem dX8_readNumber_87 : decode cX8_readNumber 87 = .ok (.iload 5, 2) := by decide +kernel
theorem dX8_readNumber_89 : decode cX8_readNumber 89 = .ok (.ifCond .eq 22, 3) := by decide +kernel
theorem dX8_readNumber_92 : decode cX8_readNumber 92 = .ok (.iload 5, 2) := by decide +kernel
theorem dX8_readNumber_94 : decode cX8_readNumber 94 = .ok (.ldc 67, 2) := by decide +kernel
theorem dX8_readNumber_96 : decode cX8_readNumber 96 = .ok (.if_icmp .gt 15, 3) := by decide +kernel
theorem dX8_readNumber_99 : decode cX8_readNumber 99 = .ok (.iload 5, 2) := by decide +kernel
theorem dX8_readNumber_101 : decode cX8_readNumber 101 = .ok (.ldc 198, 2) := by decide +kernel
theorem dX8_readNumber_103 : decode cX8_readNumber 103 = .ok (.ldc 199, 2) := by decide +kernel
theorem dX8_readNumber_105 : decode cX8_readNumber 105 = .ok (.invokestatic 82, 3) := by decide +kernel
theorem dX8_readNumber_108 : decode cX8_readNumber 108 = .ok (.ifCond .eq 8, 3) := by decide +kernel
theorem dX8_readNumber_111 : decode cX8_readNumber 111 = .ok (.ldc 200, 2) := by decide +kernel
theorem dX8_readNumber_113 : decode cX8_readNumber 113 = .ok (.goto 5, 3) := by decide +kernel
theorem dX8_readNumber_116 : decode cX8_readNumber 116 = .ok (.iload 5, 2) := by decide +kernel
theorem dX8_readNumber_118 : decode cX8_readNumber 118 = .ok (.invokevirtual 93, 3) := by decide +kernel
theorem dX8_readNumber_121 : decode cX8_readNumber 121 = .ok (.aload_n 0, 1) := by decide +kernel
theorem dX8_readNumber_122 : decode cX8_readNumber 122 = .ok (.aload_n 0, 1) := by decide +kernel
theorem dX8_readNumber_123 : decode cX8_readNumber 123 = .ok (.iload 4, 2) := by decide +kernel
theorem dX8_readNumber_125 : decode cX8_readNumber 125 = .ok (.invokevirtual 106, 3) := by decide +kernel
theorem dX8_readNumber_128 : decode cX8_readNumber 128 = .ok (.bipush 59, 2) := by decide +kernel
theorem dX8_readNumber_130 : decode cX8_readNumber 130 = .ok (.if_icmp .ne 10, 3) := by decide +kernel
theorem dX8_readNumber_133 : decode cX8_readNumber 133 = .ok (.iload 4, 2) := by decide +kernel
theorem dX8_readNumber_135 : decode cX8_readNumber 135 = .ok (.iconst 1, 1) := by decide +kernel
theorem dX8_readNumber_136 : decode cX8_readNumber 136 = .ok (.iadd, 1) := by decide +kernel
theorem dX8_readNumber_137 : decode cX8_readNumber 137 = .ok (.goto 5, 3) := by decide +kernel
theorem dX8_readNumber_140 : decode cX8_readNumber 140 = .ok (.iload 4, 2) := by decide +kernel
theorem dX8_readNumber_142 : decode cX8_readNumber 142 = .ok (.putfield 150, 3) := by decide +kernel
theorem dX8_readNumber_145 : decode cX8_readNumber 145 = .ok (.return_, 1) := by decide +kernel
set_option maxRecDepth 20000 in
theorem ggX8_named_X8_stands : GoodIn wsX8_named wsX8_stands := goodIn_r _ [6, 7, 8, 9, 5, 10, 11, 12, 13, 14, 15, 16, 17, 18, 19, 20, 21, 22, 41, 42, 43, 44, 45, 46, 47, 48, 49, 50, 51, 52, 53, 54, 55, 56, 57, 58, 59, 60, 61, 62, 63, 64, 65, 66] (by decide +kernel) (by decide +kernel)
set_option maxRecDepth 20000 in
theorem gX8_named_X8_stands : GoodIn wsX8_named (wsV RX8 117 RX8 yX8_stands wsX8_stands) := goodIn_app (goodIn_of _ (by decide +kernel)) ggX8_named_X8_stands
set_option maxRecDepth 20000 in
theorem ggX8_named_X8_lengthOf : GoodIn wsX8_named wsX8_lengthOf := goodIn_r _ [10] (by decide +kernel) (by decide +kernel)
set_option maxRecDepth 20000 in
theorem gX8_named_X8_lengthOf : GoodIn wsX8_named (va_wsS RX8 102 yX8_lengthOf wsX8_lengthOf) := goodIn_app (goodIn_of _ (by decide +kernel)) ggX8_named_X8_lengthOf
set_option maxRecDepth 20000 in
theorem ggX8_named_X8_look : GoodIn wsX8_named wsX8_look := goodIn_r _ [14, 15, 16, 41, 42, 43, 44, 45, 46, 47, 48, 49, 50, 51, 52, 53, 54, 55, 56, 57, 58, 59, 60, 61, 62, 63, 64, 65, 66] (by decide +kernel) (by decide +kernel)
set_option maxRecDepth 20000 in
theorem gX8_named_X8_look : GoodIn wsX8_named (wsV RX8 106 RX8 yX8_look wsX8_look) := goodIn_app (goodIn_of _ (by decide +kernel)) ggX8_named_X8_look
set_option maxRecDepth 20000 in
theorem ggX8_named_X8_isWord : GoodIn wsX8_named wsX8_isWord := goodIn_r _ [25, 26, 27, 5, 28, 29, 30, 31, 32, 33, 34] (by decide +kernel) (by decide +kernel)
set_option maxRecDepth 20000 in
theorem gX8_named_X8_isWord : GoodIn wsX8_named (va_wsS RX8 184 yX8_isWord wsX8_isWord) := goodIn_app (goodIn_of _ (by decide +kernel)) ggX8_named_X8_isWord
set_option maxRecDepth 20000 in
theorem ggX8_named_X8_write : GoodIn wsX8_named wsX8_write := goodIn_r _ [38, 39, 40, 41, 42, 43, 44, 45, 46, 47, 48, 49, 50, 51, 52, 53, 54, 55, 56, 57, 58, 59, 60, 61, 62, 63, 64, 65, 66] (by decide +kernel) (by decide +kernel)
set_option maxRecDepth 20000 in
theorem gX8_named_X8_write : GoodIn wsX8_named (wsV RX8 93 RX8 yX8_write wsX8_write) := goodIn_app (goodIn_of _ (by decide +kernel)) ggX8_named_X8_write
theorem dX8_named_0 : decode cX8_named 0 = .ok (.aload_n 0, 1) := by decide +kernel
theorem dX8_named_1 : decode cX8_named 1 = .ok (.aload_n 0, 1) := by decide +kernel
theorem dX8_named_2 : decode cX8_named 2 = .ok (.getfield 150, 3) := by decide +kernel
theorem dX8_named_5 : decode cX8_named 5 = .ok (.iconst 1, 1) := by decide +kernel
theorem dX8_named_6 : decode cX8_named 6 = .ok (.iadd, 1) := by decide +kernel
theorem dX8_named_7 : decode cX8_named 7 = .ok (.lload_n 1, 1) := by decide +kernel
theorem dX8_named_8 : decode cX8_named 8 = .ok (.iconst 0, 1) := by decide +kernel
theorem dX8_named_9 : decode cX8_named 9 = .ok (.invokevirtual 117, 3) := by decide +kernel
theorem dX8_named_12 : decode cX8_named 12 = .ok (.ifCond .ne 5, 3) := by decide +kernel
theorem dX8_named_15 : decode cX8_named 15 = .ok (.iconst 0, 1) := by decide +kernel
theorem dX8_named_16 : decode cX8_named 16 = .ok (.ireturn, 1) := by decide +kernel
theorem dX8_named_17 : decode cX8_named 17 = .ok (.aload_n 0, 1) := by decide +kernel
theorem dX8_named_18 : decode cX8_named 18 = .ok (.getfield 150, 3) := by decide +kernel
theorem dX8_named_21 : decode cX8_named 21 = .ok (.iconst 1, 1) := by decide +kernel
theorem dX8_named_22 : decode cX8_named 22 = .ok (.iadd, 1) := by decide +kernel
theorem dX8_named_23 : decode cX8_named 23 = .ok (.lload_n 1, 1) := by decide +kernel
theorem dX8_named_24 : decode cX8_named 24 = .ok (.invokestatic 102, 3) := by decide +kernel
theorem dX8_named_27 : decode cX8_named 27 = .ok (.iadd, 1) := by decide +kernel
theorem dX8_named_28 : decode cX8_named 28 = .ok (.istore 4, 2) := by decide +kernel
theorem dX8_named_30 : decode cX8_named 30 = .ok (.aload_n 0, 1) := by decide +kernel
theorem dX8_named_31 : decode cX8_named 31 = .ok (.iload 4, 2) := by decide +kernel
theorem dX8_named_33 : decode cX8_named 33 = .ok (.invokevirtual 106, 3) := by decide +kernel
theorem dX8_named_36 : decode cX8_named 36 = .ok (.bipush 59, 2) := by decide +kernel
theorem dX8_named_38 : decode cX8_named 38 = .ok (.if_icmp .eq 17, 3) := by decide +kernel
theorem dX8_named_41 : decode cX8_named 41 = .ok (.aload_n 0, 1) := by decide +kernel
theorem dX8_named_42 : decode cX8_named 42 = .ok (.iload 4, 2) := by decide +kernel
theorem dX8_named_44 : decode cX8_named 44 = .ok (.invokevirtual 106, 3) := by decide +kernel
theorem dX8_named_47 : decode cX8_named 47 = .ok (.invokestatic 184, 3) := by decide +kernel
theorem dX8_named_50 : decode cX8_named 50 = .ok (.ifCond .eq 5, 3) := by decide +kernel
theorem dX8_named_53 : decode cX8_named 53 = .ok (.iconst 0, 1) := by decide +kernel
theorem dX8_named_54 : decode cX8_named 54 = .ok (.ireturn, 1) := by decide +kernel
theorem dX8_named_55 : decode cX8_named 55 = .ok (.aload_n 0, 1) := by decide +kernel
theorem dX8_named_56 : decode cX8_named 56 = .ok (.iload_n 3, 1) := by decide +kernel
theorem dX8_named_57 : decode cX8_named 57 = .ok (.invokevirtual 93, 3) := by decide +kernel
theorem dX8_named_60 : decode cX8_named 60 = .ok (.aload_n 0, 1) := by decide +kernel
theorem dX8_named_61 : decode cX8_named 61 = .ok (.aload_n 0, 1) := by decide +kernel
theorem dX8_named_62 : decode cX8_named 62 = .ok (.iload 4, 2) := by decide +kernel
theorem dX8_named_64 : decode cX8_named 64 = .ok (.invokevirtual 106, 3) := by decide +kernel
theorem dX8_named_67 : decode cX8_named 67 = .ok (.bipush 59, 2) := by decide +kernel
theorem dX8_named_69 : decode cX8_named 69 = .ok (.if_icmp .ne 10, 3) := by decide +kernel
theorem dX8_named_72 : decode cX8_named 72 = .ok (.iload 4, 2) := by decide +kernel
theorem dX8_named_74 : decode cX8_named 74 = .ok (.iconst 1, 1) := by decide +kernel
theorem dX8_named_75 : decode cX8_named 75 = .ok (.iadd, 1) := by decide +kernel
theorem dX8_named_76 : decode cX8_named 76 = .ok (.goto 5, 3) := by decide +kernel
theorem dX8_named_79 : decode cX8_named 79 = .ok (.iload 4, 2) := by decide +kernel
theorem dX8_named_81 : decode cX8_named 81 = .ok (.putfield 150, 3) := by decide +kernel
theorem dX8_named_84 : decode cX8_named 84 = .ok (.iconst 1, 1) := by decide +kernel
theorem dX8_named_85 : decode cX8_named 85 = .ok (.ireturn, 1) := by decide +kernel
set_option maxRecDepth 20000 in
theorem ggX8_readAmp_X8_look : GoodIn wsX8_readAmp wsX8_look := goodIn_r _ [19, 20, 21, 69, 70, 71, 72, 73, 74, 75, 76, 77, 78, 79, 80, 81, 82, 83, 84, 85, 86, 87, 88, 89, 90, 91, 92, 93, 94] (by decide +kernel) (by decide +kernel)
set_option maxRecDepth 20000 in
theorem gX8_readAmp_X8_look : GoodIn wsX8_readAmp (wsV RX8 106 RX8 yX8_look wsX8_look) := goodIn_app (goodIn_of _ (by decide +kernel)) ggX8_readAmp_X8_look
set_option maxRecDepth 20000 in
theorem ggX8_readAmp_X8_readNumber : GoodIn wsX8_readAmp wsX8_readNumber := goodIn_r _ [25, 1, 26, 27, 28, 29, 15, 16, 17, 18, 19, 20, 21, 30, 31, 32, 33, 34, 35, 36, 37, 38, 39, 40, 41, 42, 43, 44, 69, 70, 71, 72, 73, 74, 75, 76, 77, 78, 79, 80, 81, 82, 83, 84, 85, 86, 87, 88, 89, 90, 91, 92, 93, 94] (by decide +kernel) (by decide +kernel)
set_option maxRecDepth 20000 in
theorem gX8_readAmp_X8_readNumber : GoodIn wsX8_readAmp (wsV RX8 201 RX8 yX8_readNumber wsX8_readNumber) := goodIn_app (goodIn_of _ (by decide +kernel)) ggX8_readAmp_X8_readNumber
set_option maxRecDepth 20000 in
theorem ggX8_readAmp_X8_named : GoodIn wsX8_readAmp wsX8_named := goodIn_r _ [48, 1, 49, 50, 51, 18, 52, 53, 54, 55, 56, 15, 16, 17, 19, 20, 21, 57, 58, 59, 42, 43, 44, 60, 61, 62, 63, 64, 65, 66, 67, 68, 33, 34, 35, 36, 37, 38, 39, 40, 41, 69, 70, 71, 72, 73, 74, 75, 76, 77, 78, 79, 80, 81, 82, 83, 84, 85, 86, 87, 88, 89, 90, 91, 92, 93, 94] (by decide +kernel) (by decide +kernel)
set_option maxRecDepth 20000 in
theorem gX8_readAmp_X8_named : GoodIn wsX8_readAmp (wsV RX8 207 RX8 yX8_named wsX8_named) := goodIn_app (goodIn_of _ (by decide +kernel)) ggX8_readAmp_X8_named
set_option maxRecDepth 20000 in
theorem ggX8_readAmp_X8_write : GoodIn wsX8_readAmp wsX8_write := goodIn_r _ [39, 40, 41, 69, 70, 71, 72, 73, 74, 75, 76, 77, 78, 79, 80, 81, 82, 83, 84, 85, 86, 87, 88, 89, 90, 91, 92, 93, 94] (by decide +kernel) (by decide +kernel)
set_option maxRecDepth 20000 in
theorem gX8_readAmp_X8_write : GoodIn wsX8_readAmp (wsV RX8 93 RX8 yX8_write wsX8_write) := goodIn_app (goodIn_of _ (by decide +kernel)) ggX8_readAmp_X8_write
theorem dX8_readAmp_0 : decode cX8_readAmp 0 = .ok (.aload_n 0, 1) := by decide +kernel
theorem dX8_readAmp_1 : decode cX8_readAmp 1 = .ok (.aload_n 0, 1) := by decide +kernel
theorem dX8_readAmp_2 : decode cX8_readAmp 2 = .ok (.getfield 150, 3) := by decide +kernel
theorem dX8_readAmp_5 : decode cX8_readAmp 5 = .ok (.iconst 1, 1) := by decide +kernel
theorem dX8_readAmp_6 : decode cX8_readAmp 6 = .ok (.iadd, 1) := by decide +kernel
theorem dX8_readAmp_7 : decode cX8_readAmp 7 = .ok (.invokevirtual 106, 3) := by decide +kernel
theorem dX8_readAmp_10 : decode cX8_readAmp 10 = .ok (.bipush 35, 2) := by decide +kernel
theorem dX8_readAmp_12 : decode cX8_readAmp 12 = .ok (.if_icmp .ne 50, 3) := by decide +kernel
theorem dX8_readAmp_15 : decode cX8_readAmp 15 = .ok (.aload_n 0, 1) := by decide +kernel
theorem dX8_readAmp_16 : decode cX8_readAmp 16 = .ok (.aload_n 0, 1) := by decide +kernel
theorem dX8_readAmp_17 : decode cX8_readAmp 17 = .ok (.getfield 150, 3) := by decide +kernel
theorem dX8_readAmp_20 : decode cX8_readAmp 20 = .ok (.iconst 2, 1) := by decide +kernel
theorem dX8_readAmp_21 : decode cX8_readAmp 21 = .ok (.iadd, 1) := by decide +kernel
theorem dX8_readAmp_22 : decode cX8_readAmp 22 = .ok (.invokevirtual 106, 3) := by decide +kernel
theorem dX8_readAmp_25 : decode cX8_readAmp 25 = .ok (.bipush 120, 2) := by decide +kernel
theorem dX8_readAmp_27 : decode cX8_readAmp 27 = .ok (.if_icmp .ne 20, 3) := by decide +kernel
theorem dX8_readAmp_30 : decode cX8_readAmp 30 = .ok (.aload_n 0, 1) := by decide +kernel
theorem dX8_readAmp_31 : decode cX8_readAmp 31 = .ok (.aload_n 0, 1) := by decide +kernel
theorem dX8_readAmp_32 : decode cX8_readAmp 32 = .ok (.getfield 150, 3) := by decide +kernel
theorem dX8_readAmp_35 : decode cX8_readAmp 35 = .ok (.iconst 3, 1) := by decide +kernel
theorem dX8_readAmp_36 : decode cX8_readAmp 36 = .ok (.iadd, 1) := by decide +kernel
theorem dX8_readAmp_37 : decode cX8_readAmp 37 = .ok (.bipush 16, 2) := by decide +kernel
theorem dX8_readAmp_39 : decode cX8_readAmp 39 = .ok (.bipush 6, 2) := by decide +kernel
theorem dX8_readAmp_41 : decode cX8_readAmp 41 = .ok (.invokevirtual 201, 3) := by decide +kernel
theorem dX8_readAmp_44 : decode cX8_readAmp 44 = .ok (.goto 17, 3) := by decide +kernel
theorem dX8_readAmp_47 : decode cX8_readAmp 47 = .ok (.aload_n 0, 1) := by decide +kernel
theorem dX8_readAmp_48 : decode cX8_readAmp 48 = .ok (.aload_n 0, 1) := by decide +kernel
theorem dX8_readAmp_49 : decode cX8_readAmp 49 = .ok (.getfield 150, 3) := by decide +kernel
theorem dX8_readAmp_52 : decode cX8_readAmp 52 = .ok (.iconst 2, 1) := by decide +kernel
theorem dX8_readAmp_53 : decode cX8_readAmp 53 = .ok (.iadd, 1) := by decide +kernel
theorem dX8_readAmp_54 : decode cX8_readAmp 54 = .ok (.bipush 10, 2) := by decide +kernel
theorem dX8_readAmp_56 : decode cX8_readAmp 56 = .ok (.bipush 7, 2) := by decide +kernel
theorem dX8_readAmp_58 : decode cX8_readAmp 58 = .ok (.invokevirtual 201, 3) := by decide +kernel
theorem dX8_readAmp_61 : decode cX8_readAmp 61 = .ok (.return_, 1) := by decide +kernel
theorem dX8_readAmp_62 : decode cX8_readAmp 62 = .ok (.aload_n 0, 1) := by decide +kernel
theorem dX8_readAmp_63 : decode cX8_readAmp 63 = .ok (.ldc2_w 205, 3) := by decide +kernel
theorem dX8_readAmp_66 : decode cX8_readAmp 66 = .ok (.bipush 38, 2) := by decide +kernel
theorem dX8_readAmp_68 : decode cX8_readAmp 68 = .ok (.invokevirtual 207, 3) := by decide +kernel
theorem dX8_readAmp_71 : decode cX8_readAmp 71 = .ok (.ifCond .ne 76, 3) := by decide +kernel
theorem dX8_readAmp_74 : decode cX8_readAmp 74 = .ok (.aload_n 0, 1) := by decide +kernel
theorem dX8_readAmp_75 : decode cX8_readAmp 75 = .ok (.ldc2_w 211, 3) := by decide +kernel
theorem dX8_readAmp_78 : decode cX8_readAmp 78 = .ok (.bipush 60, 2) := by decide +kernel
theorem dX8_readAmp_80 : decode cX8_readAmp 80 = .ok (.invokevirtual 207, 3) := by decide +kernel
theorem dX8_readAmp_83 : decode cX8_readAmp 83 = .ok (.ifCond .ne 64, 3) := by decide +kernel
theorem dX8_readAmp_86 : decode cX8_readAmp 86 = .ok (.aload_n 0, 1) := by decide +kernel
theorem dX8_readAmp_87 : decode cX8_readAmp 87 = .ok (.ldc2_w 213, 3) := by decide +kernel
theorem dX8_readAmp_90 : decode cX8_readAmp 90 = .ok (.bipush 62, 2) := by decide +kernel
theorem dX8_readAmp_92 : decode cX8_readAmp 92 = .ok (.invokevirtual 207, 3) := by decide +kernel
theorem dX8_readAmp_95 : decode cX8_readAmp 95 = .ok (.ifCond .ne 52, 3) := by decide +kernel
theorem dX8_readAmp_98 : decode cX8_readAmp 98 = .ok (.aload_n 0, 1) := by decide +kernel
theorem dX8_readAmp_99 : decode cX8_readAmp 99 = .ok (.ldc2_w 215, 3) := by decide +kernel
theorem dX8_readAmp_102 : decode cX8_readAmp 102 = .ok (.bipush 34, 2) := by decide +kernel
theorem dX8_readAmp_104 : decode cX8_readAmp 104 = .ok (.invokevirtual 207, 3) := by decide +kernel
theorem dX8_readAmp_107 : decode cX8_readAmp 107 = .ok (.ifCond .ne 40, 3) := by decide +kernel
theorem dX8_readAmp_110 : decode cX8_readAmp 110 = .ok (.aload_n 0, 1) := by decide +kernel
theorem dX8_readAmp_111 : decode cX8_readAmp 111 = .ok (.ldc2_w 217, 3) := by decide +kernel
theorem dX8_readAmp_114 : decode cX8_readAmp 114 = .ok (.bipush 39, 2) := by decide +kernel
theorem dX8_readAmp_116 : decode cX8_readAmp 116 = .ok (.invokevirtual 207, 3) := by decide +kernel
theorem dX8_readAmp_119 : decode cX8_readAmp 119 = .ok (.ifCond .ne 28, 3) := by decide +kernel
theorem dX8_readAmp_122 : decode cX8_readAmp 122 = .ok (.aload_n 0, 1) := by decide +kernel
theorem dX8_readAmp_123 : decode cX8_readAmp 123 = .ok (.ldc2_w 219, 3) := by decide +kernel
theorem dX8_readAmp_126 : decode cX8_readAmp 126 = .ok (.bipush 32, 2) := by decide +kernel
theorem dX8_readAmp_128 : decode cX8_readAmp 128 = .ok (.invokevirtual 207, 3) := by decide +kernel
theorem dX8_readAmp_131 : decode cX8_readAmp 131 = .ok (.ifCond .ne 16, 3) := by decide +kernel
theorem dX8_readAmp_134 : decode cX8_readAmp 134 = .ok (.aload_n 0, 1) := by decide +kernel
theorem dX8_readAmp_135 : decode cX8_readAmp 135 = .ok (.ldc2_w 221, 3) := by decide +kernel
theorem dX8_readAmp_138 : decode cX8_readAmp 138 = .ok (.sipush 233, 3) := by decide +kernel
theorem dX8_readAmp_141 : decode cX8_readAmp 141 = .ok (.invokevirtual 207, 3) := by decide +kernel
theorem dX8_readAmp_144 : decode cX8_readAmp 144 = .ok (.ifCond .eq 7, 3) := by decide +kernel
theorem dX8_readAmp_147 : decode cX8_readAmp 147 = .ok (.iconst 1, 1) := by decide +kernel
theorem dX8_readAmp_148 : decode cX8_readAmp 148 = .ok (.goto 4, 3) := by decide +kernel
theorem dX8_readAmp_151 : decode cX8_readAmp 151 = .ok (.iconst 0, 1) := by decide +kernel
theorem dX8_readAmp_152 : decode cX8_readAmp 152 = .ok (.istore_n 1, 1) := by decide +kernel
theorem dX8_readAmp_153 : decode cX8_readAmp 153 = .ok (.iload_n 1, 1) := by decide +kernel
theorem dX8_readAmp_154 : decode cX8_readAmp 154 = .ok (.ifCond .ne 87, 3) := by decide +kernel
theorem dX8_readAmp_157 : decode cX8_readAmp 157 = .ok (.aload_n 0, 1) := by decide +kernel
theorem dX8_readAmp_158 : decode cX8_readAmp 158 = .ok (.ldc2_w 223, 3) := by decide +kernel
theorem dX8_readAmp_161 : decode cX8_readAmp 161 = .ok (.sipush 246, 3) := by decide +kernel
theorem dX8_readAmp_164 : decode cX8_readAmp 164 = .ok (.invokevirtual 207, 3) := by decide +kernel
theorem dX8_readAmp_167 : decode cX8_readAmp 167 = .ok (.ifCond .ne 68, 3) := by decide +kernel
theorem dX8_readAmp_170 : decode cX8_readAmp 170 = .ok (.aload_n 0, 1) := by decide +kernel
theorem dX8_readAmp_171 : decode cX8_readAmp 171 = .ok (.ldc2_w 225, 3) := by decide +kernel
theorem dX8_readAmp_174 : decode cX8_readAmp 174 = .ok (.sipush 228, 3) := by decide +kernel
theorem dX8_readAmp_177 : decode cX8_readAmp 177 = .ok (.invokevirtual 207, 3) := by decide +kernel
theorem dX8_readAmp_180 : decode cX8_readAmp 180 = .ok (.ifCond .ne 55, 3) := by decide +kernel
theorem dX8_readAmp_183 : decode cX8_readAmp 183 = .ok (.aload_n 0, 1) := by decide +kernel
theorem dX8_readAmp_184 : decode cX8_readAmp 184 = .ok (.ldc2_w 227, 3) := by decide +kernel
theorem dX8_readAmp_187 : decode cX8_readAmp 187 = .ok (.sipush 252, 3) := by decide +kernel
theorem dX8_readAmp_190 : decode cX8_readAmp 190 = .ok (.invokevirtual 207, 3) := by decide +kernel
theorem dX8_readAmp_193 : decode cX8_readAmp 193 = .ok (.ifCond .ne 42, 3) := by decide +kernel
theorem dX8_readAmp_196 : decode cX8_readAmp 196 = .ok (.aload_n 0, 1) := by decide +kernel
theorem dX8_readAmp_197 : decode cX8_readAmp 197 = .ok (.ldc2_w 229, 3) := by decide +kernel
theorem dX8_readAmp_200 : decode cX8_readAmp 200 = .ok (.sipush 223, 3) := by decide +kernel
theorem dX8_readAmp_203 : decode cX8_readAmp 203 = .ok (.invokevirtual 207, 3) := by decide +kernel
theorem dX8_readAmp_206 : decode cX8_readAmp 206 = .ok (.ifCond .ne 29, 3) := by decide +kernel
theorem dX8_readAmp_209 : decode cX8_readAmp 209 = .ok (.aload_n 0, 1) := by decide +kernel
theorem dX8_readAmp_210 : decode cX8_readAmp 210 = .ok (.ldc2_w 231, 3) := by decide +kernel
theorem dX8_readAmp_213 : decode cX8_readAmp 213 = .ok (.sipush 8364, 3) := by decide +kernel
theorem dX8_readAmp_216 : decode cX8_readAmp 216 = .ok (.invokevirtual 207, 3) := by decide +kernel
theorem dX8_readAmp_219 : decode cX8_readAmp 219 = .ok (.ifCond .ne 16, 3) := by decide +kernel
theorem dX8_readAmp_222 : decode cX8_readAmp 222 = .ok (.aload_n 0, 1) := by decide +kernel
theorem dX8_readAmp_223 : decode cX8_readAmp 223 = .ok (.ldc2_w 233, 3) := by decide +kernel
theorem dX8_readAmp_226 : decode cX8_readAmp 226 = .ok (.sipush 169, 3) := by decide +kernel
theorem dX8_readAmp_229 : decode cX8_readAmp 229 = .ok (.invokevirtual 207, 3) := by decide +kernel
theorem dX8_readAmp_232 : decode cX8_readAmp 232 = .ok (.ifCond .eq 7, 3) := by decide +kernel
theorem dX8_readAmp_235 : decode cX8_readAmp 235 = .ok (.iconst 1, 1) := by decide +kernel
theorem dX8_readAmp_236 : decode cX8_readAmp 236 = .ok (.goto 4, 3) := by decide +kernel
theorem dX8_readAmp_239 : decode cX8_readAmp 239 = .ok (.iconst 0, 1) := by decide +kernel
theorem dX8_readAmp_240 : decode cX8_readAmp 240 = .ok (.istore_n 1, 1) := by decide +kernel
theorem dX8_readAmp_241 : decode cX8_readAmp 241 = .ok (.iload_n 1, 1) := by decide +kernel
theorem dX8_readAmp_242 : decode cX8_readAmp 242 = .ok (.ifCond .eq 4, 3) := by decide +kernel
theorem dX8_readAmp_245 : decode cX8_readAmp 245 = .ok (.return_, 1) := by decide +kernel
theorem dX8_readAmp_246 : decode cX8_readAmp 246 = .ok (.aload_n 0, 1) := by decide +kernel
theorem dX8_readAmp_247 : decode cX8_readAmp 247 = .ok (.bipush 38, 2) := by decide +kernel
theorem dX8_readAmp_249 : decode cX8_readAmp 249 = .ok (.invokevirtual 93, 3) := by decide +kernel
theorem dX8_readAmp_252 : decode cX8_readAmp 252 = .ok (.aload_n 0, 1) := by decide +kernel
theorem dX8_readAmp_253 : decode cX8_readAmp 253 = .ok (.dup, 1) := by decide +kernel
theorem dX8_readAmp_254 : decode cX8_readAmp 254 = .ok (.getfield 150, 3) := by decide +kernel
theorem dX8_readAmp_257 : decode cX8_readAmp 257 = .ok (.iconst 1, 1) := by decide +kernel
theorem dX8_readAmp_258 : decode cX8_readAmp 258 = .ok (.iadd, 1) := by decide +kernel
theorem dX8_readAmp_259 : decode cX8_readAmp 259 = .ok (.putfield 150, 3) := by decide +kernel
theorem dX8_readAmp_262 : decode cX8_readAmp 262 = .ok (.return_, 1) := by decide +kernel
set_option maxRecDepth 20000 in
theorem ggX8_page_X8_readLess : GoodIn wsX8_page wsX8_readLess := goodIn_r _ [12, 3, 13, 14, 15, 11, 16, 5, 6, 17, 18, 19, 20, 21, 22, 23, 24, 25, 26, 27, 28, 4, 29, 30, 31, 32, 33, 34, 35, 36, 37, 38, 39, 40, 41, 42, 43, 44, 45, 46, 47, 48, 49, 50, 51, 52, 53, 54, 55, 56, 57, 58, 59, 60, 61, 62, 63, 64, 65, 66, 67, 68, 69, 70, 71, 72, 73, 74, 75, 76, 77, 78, 79, 80, 81, 2, 82, 83, 84, 85, 86, 87, 88, 89, 7, 90, 91, 92, 93, 94, 95, 96, 97, 98, 99, 100, 101, 102, 103, 104, 105, 106, 107, 140, 141, 142, 143, 144, 145, 146, 147, 148, 149, 150, 151, 152, 153, 154, 155, 156, 157, 158, 159, 160, 161, 162, 163, 164, 165] (by decide +kernel) (by decide +kernel)
set_option maxRecDepth 20000 in
theorem gX8_page_X8_readLess : GoodIn wsX8_page (wsV RX8 235 RX8 yX8_readLess wsX8_readLess) := goodIn_app (goodIn_of _ (by decide +kernel)) ggX8_page_X8_readLess
set_option maxRecDepth 20000 in
theorem ggX8_page_X8_readAmp : GoodIn wsX8_page wsX8_readAmp := goodIn_r _ [111, 3, 112, 113, 114, 115, 116, 117, 118, 119, 120, 121, 122, 123, 124, 13, 14, 15, 11, 16, 5, 6, 125, 126, 127, 128, 129, 130, 131, 132, 133, 134, 135, 40, 41, 42, 90, 91, 92, 93, 7, 2, 46, 47, 48, 136, 137, 138, 139, 49, 50, 51, 52, 53, 54, 55, 56, 43, 44, 45, 102, 103, 104, 105, 106, 107, 21, 22, 23, 140, 141, 142, 143, 144, 145, 146, 147, 148, 149, 150, 151, 152, 153, 154, 155, 156, 157, 158, 159, 160, 161, 162, 163, 164, 165] (by decide +kernel) (by decide +kernel)
set_option maxRecDepth 20000 in
theorem gX8_page_X8_readAmp : GoodIn wsX8_page (wsV RX8 238 RX8 yX8_readAmp wsX8_readAmp) := goodIn_app (goodIn_of _ (by decide +kernel)) ggX8_page_X8_readAmp
set_option maxRecDepth 20000 in
theorem ggX8_page_X8_isBlank : GoodIn wsX8_page wsX8_isBlank := goodIn_r _ [63] (by decide +kernel) (by decide +kernel)
set_option maxRecDepth 20000 in
theorem gX8_page_X8_isBlank : GoodIn wsX8_page (va_wsS RX8 123 yX8_isBlank wsX8_isBlank) := goodIn_app (goodIn_of _ (by decide +kernel)) ggX8_page_X8_isBlank
set_option maxRecDepth 20000 in
theorem ggX8_page_X8_writeBlank : GoodIn wsX8_page wsX8_writeBlank := goodIn_r _ [97, 4, 2, 90, 91, 92, 11, 93, 7, 86, 87, 88, 89, 140, 141, 142, 143, 144, 145, 146, 147, 148, 149, 150, 151, 152, 153, 154, 155, 156, 157, 158, 159, 160, 161, 162, 163, 164, 165] (by decide +kernel) (by decide +kernel)
set_option maxRecDepth 20000 in
theorem gX8_page_X8_writeBlank : GoodIn wsX8_page (wsV RX8 171 RX8 yX8_writeBlank wsX8_writeBlank) := goodIn_app (goodIn_of _ (by decide +kernel)) ggX8_page_X8_writeBlank
set_option maxRecDepth 20000 in
theorem ggX8_page_X8_write : GoodIn wsX8_page wsX8_write := goodIn_r _ [93, 7, 2, 140, 141, 142, 143, 144, 145, 146, 147, 148, 149, 150, 151, 152, 153, 154, 155, 156, 157, 158, 159, 160, 161, 162, 163, 164, 165] (by decide +kernel) (by decide +kernel)
set_option maxRecDepth 20000 in
theorem gX8_page_X8_write : GoodIn wsX8_page (wsV RX8 93 RX8 yX8_write wsX8_write) := goodIn_app (goodIn_of _ (by decide +kernel)) ggX8_page_X8_write
set_option maxRecDepth 20000 in
theorem ggX8_page_X8_dropSpaces : GoodIn wsX8_page wsX8_dropSpaces := goodIn_r _ [85, 2, 86, 87, 88, 11, 89, 7, 140, 141, 142, 143, 144, 145, 146, 147, 148, 149, 150, 151, 152, 153, 154, 155, 156, 157, 158, 159, 160, 161, 162, 163, 164, 165] (by decide +kernel) (by decide +kernel)
set_option maxRecDepth 20000 in
theorem gX8_page_X8_dropSpaces : GoodIn wsX8_page (wsV RX8 99 RX8 yX8_dropSpaces wsX8_dropSpaces) := goodIn_app (goodIn_of _ (by decide +kernel)) ggX8_page_X8_dropSpaces
theorem dX8_page_0 : decode cX8_page 0 = .ok (.aload_n 0, 1) := by decide +kernel
theorem dX8_page_1 : decode cX8_page 1 = .ok (.iconst 0, 1) := by decide +kernel
theorem dX8_page_2 : decode cX8_page 2 = .ok (.putfield 60, 3) := by decide +kernel
theorem dX8_page_5 : decode cX8_page 5 = .ok (.aload_n 0, 1) := by decide +kernel
theorem dX8_page_6 : decode cX8_page 6 = .ok (.iconst 0, 1) := by decide +kernel
theorem dX8_page_7 : decode cX8_page 7 = .ok (.putfield 86, 3) := by decide +kernel
theorem dX8_page_10 : decode cX8_page 10 = .ok (.aload_n 0, 1) := by decide +kernel
theorem dX8_page_11 : decode cX8_page 11 = .ok (.iconst 0, 1) := by decide +kernel
theorem dX8_page_12 : decode cX8_page 12 = .ok (.putfield 150, 3) := by decide +kernel
theorem dX8_page_15 : decode cX8_page 15 = .ok (.aload_n 0, 1) := by decide +kernel
theorem dX8_page_16 : decode cX8_page 16 = .ok (.iconst 0, 1) := by decide +kernel
theorem dX8_page_17 : decode cX8_page 17 = .ok (.putfield 89, 3) := by decide +kernel
theorem dX8_page_20 : decode cX8_page 20 = .ok (.aload_n 0, 1) := by decide +kernel
theorem dX8_page_21 : decode cX8_page 21 = .ok (.getfield 150, 3) := by decide +kernel
theorem dX8_page_24 : decode cX8_page 24 = .ok (.aload_n 0, 1) := by decide +kernel
theorem dX8_page_25 : decode cX8_page 25 = .ok (.getfield 64, 3) := by decide +kernel
theorem dX8_page_28 : decode cX8_page 28 = .ok (.if_icmp .ge 72, 3) := by decide +kernel
theorem dX8_page_31 : decode cX8_page 31 = .ok (.aload_n 0, 1) := by decide +kernel
theorem dX8_page_32 : decode cX8_page 32 = .ok (.getfield 7, 3) := by decide +kernel
theorem dX8_page_35 : decode cX8_page 35 = .ok (.aload_n 0, 1) := by decide +kernel
theorem dX8_page_36 : decode cX8_page 36 = .ok (.getfield 150, 3) := by decide +kernel
theorem dX8_page_39 : decode cX8_page 39 = .ok (.iaload, 1) := by decide +kernel
theorem dX8_page_40 : decode cX8_page 40 = .ok (.istore_n 1, 1) := by decide +kernel
theorem dX8_page_41 : decode cX8_page 41 = .ok (.iload_n 1, 1) := by decide +kernel
theorem dX8_page_42 : decode cX8_page 42 = .ok (.bipush 60, 2) := by decide +kernel
theorem dX8_page_44 : decode cX8_page 44 = .ok (.if_icmp .ne 10, 3) := by decide +kernel
theorem dX8_page_47 : decode cX8_page 47 = .ok (.aload_n 0, 1) := by decide +kernel
theorem dX8_page_48 : decode cX8_page 48 = .ok (.invokevirtual 235, 3) := by decide +kernel
theorem dX8_page_51 : decode cX8_page 51 = .ok (.goto 46, 3) := by decide +kernel
theorem dX8_page_54 : decode cX8_page 54 = .ok (.iload_n 1, 1) := by decide +kernel
theorem dX8_page_55 : decode cX8_page 55 = .ok (.bipush 38, 2) := by decide +kernel
theorem dX8_page_57 : decode cX8_page 57 = .ok (.if_icmp .ne 10, 3) := by decide +kernel
theorem dX8_page_60 : decode cX8_page 60 = .ok (.aload_n 0, 1) := by decide +kernel
theorem dX8_page_61 : decode cX8_page 61 = .ok (.invokevirtual 238, 3) := by decide +kernel
theorem dX8_page_64 : decode cX8_page 64 = .ok (.goto 33, 3) := by decide +kernel
theorem dX8_page_67 : decode cX8_page 67 = .ok (.iload_n 1, 1) := by decide +kernel
theorem dX8_page_68 : decode cX8_page 68 = .ok (.invokestatic 123, 3) := by decide +kernel
theorem dX8_page_71 : decode cX8_page 71 = .ok (.ifCond .eq 11, 3) := by decide +kernel
theorem dX8_page_74 : decode cX8_page 74 = .ok (.aload_n 0, 1) := by decide +kernel
theorem dX8_page_75 : decode cX8_page 75 = .ok (.iload_n 1, 1) := by decide +kernel
theorem dX8_page_76 : decode cX8_page 76 = .ok (.invokevirtual 171, 3) := by decide +kernel
theorem dX8_page_79 : decode cX8_page 79 = .ok (.goto 8, 3) := by decide +kernel
theorem dX8_page_82 : decode cX8_page 82 = .ok (.aload_n 0, 1) := by decide +kernel
theorem dX8_page_83 : decode cX8_page 83 = .ok (.iload_n 1, 1) := by decide +kernel
theorem dX8_page_84 : decode cX8_page 84 = .ok (.invokevirtual 93, 3) := by decide +kernel
theorem dX8_page_87 : decode cX8_page 87 = .ok (.aload_n 0, 1) := by decide +kernel
theorem dX8_page_88 : decode cX8_page 88 = .ok (.dup, 1) := by decide +kernel
theorem dX8_page_89 : decode cX8_page 89 = .ok (.getfield 150, 3) := by decide +kernel
theorem dX8_page_92 : decode cX8_page 92 = .ok (.iconst 1, 1) := by decide +kernel
theorem dX8_page_93 : decode cX8_page 93 = .ok (.iadd, 1) := by decide +kernel
theorem dX8_page_94 : decode cX8_page 94 = .ok (.putfield 150, 3) := by decide +kernel
theorem dX8_page_97 : decode cX8_page 97 = .ok (.goto (-77), 3) := by decide +kernel
theorem dX8_page_100 : decode cX8_page 100 = .ok (.aload_n 0, 1) := by decide +kernel
theorem dX8_page_101 : decode cX8_page 101 = .ok (.getfield 89, 3) := by decide +kernel
theorem dX8_page_104 : decode cX8_page 104 = .ok (.ifCond .ne 7, 3) := by decide +kernel
theorem dX8_page_107 : decode cX8_page 107 = .ok (.aload_n 0, 1) := by decide +kernel
theorem dX8_page_108 : decode cX8_page 108 = .ok (.invokevirtual 99, 3) := by decide +kernel
theorem dX8_page_111 : decode cX8_page 111 = .ok (.iconst 0, 1) := by decide +kernel
theorem dX8_page_112 : decode cX8_page 112 = .ok (.istore_n 1, 1) := by decide +kernel
theorem dX8_page_113 : decode cX8_page 113 = .ok (.iload_n 1, 1) := by decide +kernel
theorem dX8_page_114 : decode cX8_page 114 = .ok (.aload_n 0, 1) := by decide +kernel
theorem dX8_page_115 : decode cX8_page 115 = .ok (.getfield 86, 3) := by decide +kernel
theorem dX8_page_118 : decode cX8_page 118 = .ok (.if_icmp .ge 21, 3) := by decide +kernel
theorem dX8_page_121 : decode cX8_page 121 = .ok (.aload_n 0, 1) := by decide +kernel
theorem dX8_page_122 : decode cX8_page 122 = .ok (.getfield 7, 3) := by decide +kernel
theorem dX8_page_125 : decode cX8_page 125 = .ok (.iload_n 1, 1) := by decide +kernel
theorem dX8_page_126 : decode cX8_page 126 = .ok (.aload_n 0, 1) := by decide +kernel
theorem dX8_page_127 : decode cX8_page 127 = .ok (.getfield 13, 3) := by decide +kernel
theorem dX8_page_130 : decode cX8_page 130 = .ok (.iload_n 1, 1) := by decide +kernel
theorem dX8_page_131 : decode cX8_page 131 = .ok (.iaload, 1) := by decide +kernel
theorem dX8_page_132 : decode cX8_page 132 = .ok (.iastore, 1) := by decide +kernel
theorem dX8_page_133 : decode cX8_page 133 = .ok (.iinc 1 1, 3) := by decide +kernel
theorem dX8_page_136 : decode cX8_page 136 = .ok (.goto (-23), 3) := by decide +kernel
theorem dX8_page_139 : decode cX8_page 139 = .ok (.aload_n 0, 1) := by decide +kernel
theorem dX8_page_140 : decode cX8_page 140 = .ok (.aload_n 0, 1) := by decide +kernel
theorem dX8_page_141 : decode cX8_page 141 = .ok (.getfield 86, 3) := by decide +kernel
theorem dX8_page_144 : decode cX8_page 144 = .ok (.putfield 64, 3) := by decide +kernel
theorem dX8_page_147 : decode cX8_page 147 = .ok (.aload_n 0, 1) := by decide +kernel
theorem dX8_page_148 : decode cX8_page 148 = .ok (.getfield 64, 3) := by decide +kernel
theorem dX8_page_151 : decode cX8_page 151 = .ok (.ireturn, 1) := by decide +kernel
theorem dX8_depthOf_0 : decode cX8_depthOf 0 = .ok (.iconst 0, 1) := by decide +kernel
theorem dX8_depthOf_1 : decode cX8_depthOf 1 = .ok (.istore_n 3, 1) := by decide +kernel
theorem dX8_depthOf_2 : decode cX8_depthOf 2 = .ok (.iload_n 1, 1) := by decide +kernel
theorem dX8_depthOf_3 : decode cX8_depthOf 3 = .ok (.istore 4, 2) := by decide +kernel
theorem dX8_depthOf_5 : decode cX8_depthOf 5 = .ok (.iload 4, 2) := by decide +kernel
theorem dX8_depthOf_7 : decode cX8_depthOf 7 = .ok (.iload_n 2, 1) := by decide +kernel
theorem dX8_depthOf_8 : decode cX8_depthOf 8 = .ok (.if_icmp .ge 48, 3) := by decide +kernel
theorem dX8_depthOf_11 : decode cX8_depthOf 11 = .ok (.aload_n 0, 1) := by decide +kernel
theorem dX8_depthOf_12 : decode cX8_depthOf 12 = .ok (.getfield 7, 3) := by decide +kernel
theorem dX8_depthOf_15 : decode cX8_depthOf 15 = .ok (.iload 4, 2) := by decide +kernel
theorem dX8_depthOf_17 : decode cX8_depthOf 17 = .ok (.iaload, 1) := by decide +kernel
theorem dX8_depthOf_18 : decode cX8_depthOf 18 = .ok (.bipush 32, 2) := by decide +kernel
theorem dX8_depthOf_20 : decode cX8_depthOf 20 = .ok (.if_icmp .eq 15, 3) := by decide +kernel
theorem dX8_depthOf_23 : decode cX8_depthOf 23 = .ok (.aload_n 0, 1) := by decide +kernel
theorem dX8_depthOf_24 : decode cX8_depthOf 24 = .ok (.getfield 7, 3) := by decide +kernel
theorem dX8_depthOf_27 : decode cX8_depthOf 27 = .ok (.iload 4, 2) := by decide +kernel
theorem dX8_depthOf_29 : decode cX8_depthOf 29 = .ok (.iaload, 1) := by decide +kernel
theorem dX8_depthOf_30 : decode cX8_depthOf 30 = .ok (.bipush 62, 2) := by decide +kernel
theorem dX8_depthOf_32 : decode cX8_depthOf 32 = .ok (.if_icmp .ne 24, 3) := by decide +kernel
theorem dX8_depthOf_35 : decode cX8_depthOf 35 = .ok (.aload_n 0, 1) := by decide +kernel
theorem dX8_depthOf_36 : decode cX8_depthOf 36 = .ok (.getfield 7, 3) := by decide +kernel
theorem dX8_depthOf_39 : decode cX8_depthOf 39 = .ok (.iload 4, 2) := by decide +kernel
theorem dX8_depthOf_41 : decode cX8_depthOf 41 = .ok (.iaload, 1) := by decide +kernel
theorem dX8_depthOf_42 : decode cX8_depthOf 42 = .ok (.bipush 62, 2) := by decide +kernel
theorem dX8_depthOf_44 : decode cX8_depthOf 44 = .ok (.if_icmp .ne 6, 3) := by decide +kernel
theorem dX8_depthOf_47 : decode cX8_depthOf 47 = .ok (.iinc 3 1, 3) := by decide +kernel
theorem dX8_depthOf_50 : decode cX8_depthOf 50 = .ok (.iinc 4 1, 3) := by decide +kernel
theorem dX8_depthOf_53 : decode cX8_depthOf 53 = .ok (.goto (-48), 3) := by decide +kernel
theorem dX8_depthOf_56 : decode cX8_depthOf 56 = .ok (.iload_n 3, 1) := by decide +kernel
theorem dX8_depthOf_57 : decode cX8_depthOf 57 = .ok (.ireturn, 1) := by decide +kernel
theorem dX8_isMark_0 : decode cX8_isMark 0 = .ok (.iload_n 2, 1) := by decide +kernel
theorem dX8_isMark_1 : decode cX8_isMark 1 = .ok (.iload_n 1, 1) := by decide +kernel
theorem dX8_isMark_2 : decode cX8_isMark 2 = .ok (.isub, 1) := by decide +kernel
theorem dX8_isMark_3 : decode cX8_isMark 3 = .ok (.istore_n 3, 1) := by decide +kernel
theorem dX8_isMark_4 : decode cX8_isMark 4 = .ok (.iload_n 3, 1) := by decide +kernel
theorem dX8_isMark_5 : decode cX8_isMark 5 = .ok (.iconst 2, 1) := by decide +kernel
theorem dX8_isMark_6 : decode cX8_isMark 6 = .ok (.if_icmp .eq 21, 3) := by decide +kernel
theorem dX8_isMark_9 : decode cX8_isMark 9 = .ok (.iload_n 3, 1) := by decide +kernel
theorem dX8_isMark_10 : decode cX8_isMark 10 = .ok (.iconst 3, 1) := by decide +kernel
theorem dX8_isMark_11 : decode cX8_isMark 11 = .ok (.if_icmp .ne 44, 3) := by decide +kernel
theorem dX8_isMark_14 : decode cX8_isMark 14 = .ok (.aload_n 0, 1) := by decide +kernel
theorem dX8_isMark_15 : decode cX8_isMark 15 = .ok (.getfield 7, 3) := by decide +kernel
theorem dX8_isMark_18 : decode cX8_isMark 18 = .ok (.iload_n 1, 1) := by decide +kernel
theorem dX8_isMark_19 : decode cX8_isMark 19 = .ok (.iconst 2, 1) := by decide +kernel
theorem dX8_isMark_20 : decode cX8_isMark 20 = .ok (.iadd, 1) := by decide +kernel
theorem dX8_isMark_21 : decode cX8_isMark 21 = .ok (.iaload, 1) := by decide +kernel
theorem dX8_isMark_22 : decode cX8_isMark 22 = .ok (.bipush 32, 2) := by decide +kernel
theorem dX8_isMark_24 : decode cX8_isMark 24 = .ok (.if_icmp .ne 31, 3) := by decide +kernel
theorem dX8_isMark_27 : decode cX8_isMark 27 = .ok (.aload_n 0, 1) := by decide +kernel
theorem dX8_isMark_28 : decode cX8_isMark 28 = .ok (.getfield 7, 3) := by decide +kernel
theorem dX8_isMark_31 : decode cX8_isMark 31 = .ok (.iload_n 1, 1) := by decide +kernel
theorem dX8_isMark_32 : decode cX8_isMark 32 = .ok (.iaload, 1) := by decide +kernel
theorem dX8_isMark_33 : decode cX8_isMark 33 = .ok (.bipush 45, 2) := by decide +kernel
theorem dX8_isMark_35 : decode cX8_isMark 35 = .ok (.if_icmp .ne 20, 3) := by decide +kernel
theorem dX8_isMark_38 : decode cX8_isMark 38 = .ok (.aload_n 0, 1) := by decide +kernel
theorem dX8_isMark_39 : decode cX8_isMark 39 = .ok (.getfield 7, 3) := by decide +kernel
theorem dX8_isMark_42 : decode cX8_isMark 42 = .ok (.iload_n 1, 1) := by decide +kernel
theorem dX8_isMark_43 : decode cX8_isMark 43 = .ok (.iconst 1, 1) := by decide +kernel
theorem dX8_isMark_44 : decode cX8_isMark 44 = .ok (.iadd, 1) := by decide +kernel
theorem dX8_isMark_45 : decode cX8_isMark 45 = .ok (.iaload, 1) := by decide +kernel
theorem dX8_isMark_46 : decode cX8_isMark 46 = .ok (.bipush 45, 2) := by decide +kernel
theorem dX8_isMark_48 : decode cX8_isMark 48 = .ok (.if_icmp .ne 7, 3) := by decide +kernel
theorem dX8_isMark_51 : decode cX8_isMark 51 = .ok (.iconst 1, 1) := by decide +kernel
theorem dX8_isMark_52 : decode cX8_isMark 52 = .ok (.goto 4, 3) := by decide +kernel
theorem dX8_isMark_55 : decode cX8_isMark 55 = .ok (.iconst 0, 1) := by decide +kernel
theorem dX8_isMark_56 : decode cX8_isMark 56 = .ok (.ireturn, 1) := by decide +kernel
set_option maxRecDepth 20000 in
theorem ggX8_hasWord_X8_lengthOf : GoodIn wsX8_hasWord wsX8_lengthOf := goodIn_r _ [5] (by decide +kernel) (by decide +kernel)
set_option maxRecDepth 20000 in
theorem gX8_hasWord_X8_lengthOf : GoodIn wsX8_hasWord (va_wsS RX8 102 yX8_lengthOf wsX8_lengthOf) := goodIn_app (goodIn_of _ (by decide +kernel)) ggX8_hasWord_X8_lengthOf
set_option maxRecDepth 20000 in
theorem ggX8_hasWord_X8_isWord : GoodIn wsX8_hasWord wsX8_isWord := goodIn_r _ [8, 9, 10, 4, 11, 12, 13, 14, 15, 16, 17] (by decide +kernel) (by decide +kernel)
set_option maxRecDepth 20000 in
theorem gX8_hasWord_X8_isWord : GoodIn wsX8_hasWord (va_wsS RX8 184 yX8_isWord wsX8_isWord) := goodIn_app (goodIn_of _ (by decide +kernel)) ggX8_hasWord_X8_isWord
set_option maxRecDepth 20000 in
theorem ggX8_hasWord_X8_stands : GoodIn wsX8_hasWord wsX8_stands := goodIn_r _ [21, 22, 2, 3, 4, 5, 23, 24, 25, 26, 27, 1, 28, 29, 30, 31, 32, 33, 34, 35, 36, 37, 38, 39, 40, 41, 42, 43, 44, 45, 46, 47, 48, 49, 50, 51, 52, 53, 54, 55, 56, 57, 58, 59] (by decide +kernel) (by decide +kernel)
set_option maxRecDepth 20000 in
theorem gX8_hasWord_X8_stands : GoodIn wsX8_hasWord (wsV RX8 117 RX8 yX8_stands wsX8_stands) := goodIn_app (goodIn_of _ (by decide +kernel)) ggX8_hasWord_X8_stands
theorem dX8_hasWord_0 : decode cX8_hasWord 0 = .ok (.lload_n 3, 1) := by decide +kernel
theorem dX8_hasWord_1 : decode cX8_hasWord 1 = .ok (.invokestatic 102, 3) := by decide +kernel
theorem dX8_hasWord_4 : decode cX8_hasWord 4 = .ok (.istore 5, 2) := by decide +kernel
theorem dX8_hasWord_6 : decode cX8_hasWord 6 = .ok (.iload_n 1, 1) := by decide +kernel
theorem dX8_hasWord_7 : decode cX8_hasWord 7 = .ok (.istore 6, 2) := by decide +kernel
theorem dX8_hasWord_9 : decode cX8_hasWord 9 = .ok (.iload 6, 2) := by decide +kernel
theorem dX8_hasWord_11 : decode cX8_hasWord 11 = .ok (.iload 5, 2) := by decide +kernel
theorem dX8_hasWord_13 : decode cX8_hasWord 13 = .ok (.iadd, 1) := by decide +kernel
theorem dX8_hasWord_14 : decode cX8_hasWord 14 = .ok (.iload_n 2, 1) := by decide +kernel
theorem dX8_hasWord_15 : decode cX8_hasWord 15 = .ok (.if_icmp .gt 80, 3) := by decide +kernel
theorem dX8_hasWord_18 : decode cX8_hasWord 18 = .ok (.iload 6, 2) := by decide +kernel
theorem dX8_hasWord_20 : decode cX8_hasWord 20 = .ok (.iload_n 1, 1) := by decide +kernel
theorem dX8_hasWord_21 : decode cX8_hasWord 21 = .ok (.if_icmp .eq 18, 3) := by decide +kernel
theorem dX8_hasWord_24 : decode cX8_hasWord 24 = .ok (.aload_n 0, 1) := by decide +kernel
theorem dX8_hasWord_25 : decode cX8_hasWord 25 = .ok (.getfield 7, 3) := by decide +kernel
theorem dX8_hasWord_28 : decode cX8_hasWord 28 = .ok (.iload 6, 2) := by decide +kernel
theorem dX8_hasWord_30 : decode cX8_hasWord 30 = .ok (.iconst 1, 1) := by decide +kernel
theorem dX8_hasWord_31 : decode cX8_hasWord 31 = .ok (.isub, 1) := by decide +kernel
theorem dX8_hasWord_32 : decode cX8_hasWord 32 = .ok (.iaload, 1) := by decide +kernel
theorem dX8_hasWord_33 : decode cX8_hasWord 33 = .ok (.invokestatic 184, 3) := by decide +kernel
theorem dX8_hasWord_36 : decode cX8_hasWord 36 = .ok (.ifCond .ne 32, 3) := by decide +kernel
theorem dX8_hasWord_39 : decode cX8_hasWord 39 = .ok (.iload 6, 2) := by decide +kernel
theorem dX8_hasWord_41 : decode cX8_hasWord 41 = .ok (.iload 5, 2) := by decide +kernel
theorem dX8_hasWord_43 : decode cX8_hasWord 43 = .ok (.iadd, 1) := by decide +kernel
theorem dX8_hasWord_44 : decode cX8_hasWord 44 = .ok (.iload_n 2, 1) := by decide +kernel
theorem dX8_hasWord_45 : decode cX8_hasWord 45 = .ok (.if_icmp .eq 19, 3) := by decide +kernel
theorem dX8_hasWord_48 : decode cX8_hasWord 48 = .ok (.aload_n 0, 1) := by decide +kernel
theorem dX8_hasWord_49 : decode cX8_hasWord 49 = .ok (.getfield 7, 3) := by decide +kernel
theorem dX8_hasWord_52 : decode cX8_hasWord 52 = .ok (.iload 6, 2) := by decide +kernel
theorem dX8_hasWord_54 : decode cX8_hasWord 54 = .ok (.iload 5, 2) := by decide +kernel
theorem dX8_hasWord_56 : decode cX8_hasWord 56 = .ok (.iadd, 1) := by decide +kernel
theorem dX8_hasWord_57 : decode cX8_hasWord 57 = .ok (.iaload, 1) := by decide +kernel
theorem dX8_hasWord_58 : decode cX8_hasWord 58 = .ok (.invokestatic 184, 3) := by decide +kernel
theorem dX8_hasWord_61 : decode cX8_hasWord 61 = .ok (.ifCond .ne 7, 3) := by decide +kernel
theorem dX8_hasWord_64 : decode cX8_hasWord 64 = .ok (.iconst 1, 1) := by decide +kernel
theorem dX8_hasWord_65 : decode cX8_hasWord 65 = .ok (.goto 4, 3) := by decide +kernel
theorem dX8_hasWord_68 : decode cX8_hasWord 68 = .ok (.iconst 0, 1) := by decide +kernel
theorem dX8_hasWord_69 : decode cX8_hasWord 69 = .ok (.istore 7, 2) := by decide +kernel
theorem dX8_hasWord_71 : decode cX8_hasWord 71 = .ok (.iload 7, 2) := by decide +kernel
theorem dX8_hasWord_73 : decode cX8_hasWord 73 = .ok (.ifCond .eq 16, 3) := by decide +kernel
theorem dX8_hasWord_76 : decode cX8_hasWord 76 = .ok (.aload_n 0, 1) := by decide +kernel
theorem dX8_hasWord_77 : decode cX8_hasWord 77 = .ok (.iload 6, 2) := by decide +kernel
theorem dX8_hasWord_79 : decode cX8_hasWord 79 = .ok (.lload_n 3, 1) := by decide +kernel
theorem dX8_hasWord_80 : decode cX8_hasWord 80 = .ok (.iconst 0, 1) := by decide +kernel
theorem dX8_hasWord_81 : decode cX8_hasWord 81 = .ok (.invokevirtual 117, 3) := by decide +kernel
theorem dX8_hasWord_84 : decode cX8_hasWord 84 = .ok (.ifCond .eq 5, 3) := by decide +kernel
theorem dX8_hasWord_87 : decode cX8_hasWord 87 = .ok (.iconst 1, 1) := by decide +kernel
theorem dX8_hasWord_88 : decode cX8_hasWord 88 = .ok (.ireturn, 1) := by decide +kernel
theorem dX8_hasWord_89 : decode cX8_hasWord 89 = .ok (.iinc 6 1, 3) := by decide +kernel
theorem dX8_hasWord_92 : decode cX8_hasWord 92 = .ok (.goto (-83), 3) := by decide +kernel
theorem dX8_hasWord_95 : decode cX8_hasWord 95 = .ok (.iconst 0, 1) := by decide +kernel
theorem dX8_hasWord_96 : decode cX8_hasWord 96 = .ok (.ireturn, 1) := by decide +kernel
set_option maxRecDepth 20000 in
theorem ggX8_leads_X8_hasWord : GoodIn wsX8_leads wsX8_hasWord := goodIn_r _ [8, 1, 9, 10, 7, 11, 12, 13, 14, 15, 16, 17, 18, 19, 20, 21, 22, 23, 24, 25, 26, 27, 28, 29, 30, 31, 32, 33, 34, 35, 36, 37, 38, 39, 40, 41, 42, 43, 44, 45, 46, 47, 48, 49, 50, 51, 52, 53, 54, 55, 56, 57, 58, 59, 60, 61, 62, 63, 64, 65] (by decide +kernel) (by decide +kernel)
set_option maxRecDepth 20000 in
theorem gX8_leads_X8_hasWord : GoodIn wsX8_leads (wsV RX8 243 RX8 yX8_hasWord wsX8_hasWord) := goodIn_app (goodIn_of _ (by decide +kernel)) ggX8_leads_X8_hasWord
theorem dX8_leads_0 : decode cX8_leads 0 = .ok (.iload_n 2, 1) := by decide +kernel
theorem dX8_leads_1 : decode cX8_leads 1 = .ok (.iload_n 1, 1) := by decide +kernel
theorem dX8_leads_2 : decode cX8_leads 2 = .ok (.if_icmp .eq 16, 3) := by decide +kernel
theorem dX8_leads_5 : decode cX8_leads 5 = .ok (.aload_n 0, 1) := by decide +kernel
theorem dX8_leads_6 : decode cX8_leads 6 = .ok (.getfield 7, 3) := by decide +kernel
theorem dX8_leads_9 : decode cX8_leads 9 = .ok (.iload_n 2, 1) := by decide +kernel
theorem dX8_leads_10 : decode cX8_leads 10 = .ok (.iconst 1, 1) := by decide +kernel
theorem dX8_leads_11 : decode cX8_leads 11 = .ok (.isub, 1) := by decide +kernel
theorem dX8_leads_12 : decode cX8_leads 12 = .ok (.iaload, 1) := by decide +kernel
theorem dX8_leads_13 : decode cX8_leads 13 = .ok (.bipush 58, 2) := by decide +kernel
theorem dX8_leads_15 : decode cX8_leads 15 = .ok (.if_icmp .eq 5, 3) := by decide +kernel
theorem dX8_leads_18 : decode cX8_leads 18 = .ok (.iconst 0, 1) := by decide +kernel
theorem dX8_leads_19 : decode cX8_leads 19 = .ok (.ireturn, 1) := by decide +kernel
theorem dX8_leads_20 : decode cX8_leads 20 = .ok (.iload_n 1, 1) := by decide +kernel
theorem dX8_leads_21 : decode cX8_leads 21 = .ok (.istore_n 3, 1) := by decide +kernel
theorem dX8_leads_22 : decode cX8_leads 22 = .ok (.iload_n 3, 1) := by decide +kernel
theorem dX8_leads_23 : decode cX8_leads 23 = .ok (.iload_n 2, 1) := by decide +kernel
theorem dX8_leads_24 : decode cX8_leads 24 = .ok (.if_icmp .ge 22, 3) := by decide +kernel
theorem dX8_leads_27 : decode cX8_leads 27 = .ok (.aload_n 0, 1) := by decide +kernel
theorem dX8_leads_28 : decode cX8_leads 28 = .ok (.getfield 7, 3) := by decide +kernel
theorem dX8_leads_31 : decode cX8_leads 31 = .ok (.iload_n 3, 1) := by decide +kernel
theorem dX8_leads_32 : decode cX8_leads 32 = .ok (.iaload, 1) := by decide +kernel
theorem dX8_leads_33 : decode cX8_leads 33 = .ok (.bipush 64, 2) := by decide +kernel
theorem dX8_leads_35 : decode cX8_leads 35 = .ok (.if_icmp .ne 5, 3) := by decide +kernel
theorem dX8_leads_38 : decode cX8_leads 38 = .ok (.iconst 1, 1) := by decide +kernel
theorem dX8_leads_39 : decode cX8_leads 39 = .ok (.ireturn, 1) := by decide +kernel
theorem dX8_leads_40 : decode cX8_leads 40 = .ok (.iinc 3 1, 3) := by decide +kernel
theorem dX8_leads_43 : decode cX8_leads 43 = .ok (.goto (-21), 3) := by decide +kernel
theorem dX8_leads_46 : decode cX8_leads 46 = .ok (.aload_n 0, 1) := by decide +kernel
theorem dX8_leads_47 : decode cX8_leads 47 = .ok (.iload_n 1, 1) := by decide +kernel
theorem dX8_leads_48 : decode cX8_leads 48 = .ok (.iload_n 2, 1) := by decide +kernel
theorem dX8_leads_49 : decode cX8_leads 49 = .ok (.ldc2_w 241, 3) := by decide +kernel
theorem dX8_leads_52 : decode cX8_leads 52 = .ok (.invokevirtual 243, 3) := by decide +kernel
theorem dX8_leads_55 : decode cX8_leads 55 = .ok (.ifCond .ne 15, 3) := by decide +kernel
theorem dX8_leads_58 : decode cX8_leads 58 = .ok (.aload_n 0, 1) := by decide +kernel
theorem dX8_leads_59 : decode cX8_leads 59 = .ok (.iload_n 1, 1) := by decide +kernel
theorem dX8_leads_60 : decode cX8_leads 60 = .ok (.iload_n 2, 1) := by decide +kernel
theorem dX8_leads_61 : decode cX8_leads 61 = .ok (.ldc2_w 247, 3) := by decide +kernel
theorem dX8_leads_64 : decode cX8_leads 64 = .ok (.invokevirtual 243, 3) := by decide +kernel
theorem dX8_leads_67 : decode cX8_leads 67 = .ok (.ifCond .eq 7, 3) := by decide +kernel
theorem dX8_leads_70 : decode cX8_leads 70 = .ok (.iconst 1, 1) := by decide +kernel
theorem dX8_leads_71 : decode cX8_leads 71 = .ok (.goto 4, 3) := by decide +kernel
theorem dX8_leads_74 : decode cX8_leads 74 = .ok (.iconst 0, 1) := by decide +kernel
theorem dX8_leads_75 : decode cX8_leads 75 = .ok (.ireturn, 1) := by decide +kernel
set_option maxRecDepth 20000 in
theorem ggX8_lookAtLines_X8_depthOf : GoodIn wsX8_lookAtLines wsX8_depthOf := goodIn_r _ [13, 3, 58, 59, 60, 61, 62, 63, 64, 65, 66, 67, 68, 69, 70, 71, 72, 73, 74, 75, 76, 77, 78, 79, 80, 81, 82, 83] (by decide +kernel) (by decide +kernel)
set_option maxRecDepth 20000 in
theorem gX8_lookAtLines_X8_depthOf : GoodIn wsX8_lookAtLines (wsV RX8 252 RX8 yX8_depthOf wsX8_depthOf) := goodIn_app (goodIn_of _ (by decide +kernel)) ggX8_lookAtLines_X8_depthOf
set_option maxRecDepth 20000 in
theorem ggX8_lookAtLines_X8_isMark : GoodIn wsX8_lookAtLines wsX8_isMark := goodIn_r _ [17, 3, 58, 59, 60, 61, 62, 63, 64, 65, 66, 67, 68, 69, 70, 71, 72, 73, 74, 75, 76, 77, 78, 79, 80, 81, 82, 83] (by decide +kernel) (by decide +kernel)
set_option maxRecDepth 20000 in
theorem gX8_lookAtLines_X8_isMark : GoodIn wsX8_lookAtLines (wsV RX8 255 RX8 yX8_isMark wsX8_isMark) := goodIn_app (goodIn_of _ (by decide +kernel)) ggX8_lookAtLines_X8_isMark
set_option maxRecDepth 20000 in
theorem ggX8_lookAtLines_X8_leads : GoodIn wsX8_lookAtLines wsX8_leads := goodIn_r _ [21, 3, 22, 23, 24, 25, 26, 12, 27, 28, 29, 30, 31, 32, 33, 34, 35, 36, 37, 38, 39, 40, 41, 42, 43, 44, 45, 46, 47, 48, 49, 50, 51, 2, 52, 53, 54, 55, 56, 57, 58, 59, 60, 61, 62, 63, 64, 65, 66, 67, 68, 69, 70, 71, 72, 73, 74, 75, 76, 77, 78, 79, 80, 81, 82, 83] (by decide +kernel) (by decide +kernel)
set_option maxRecDepth 20000 in
theorem gX8_lookAtLines_X8_leads : GoodIn wsX8_lookAtLines (wsV RX8 259 RX8 yX8_leads wsX8_leads) := goodIn_app (goodIn_of _ (by decide +kernel)) ggX8_lookAtLines_X8_leads
theorem dX8_lookAtLines_0 : decode cX8_lookAtLines 0 = .ok (.aload_n 0, 1) := by decide +kernel
theorem dX8_lookAtLines_1 : decode cX8_lookAtLines 1 = .ok (.iconst 0, 1) := by decide +kernel
theorem dX8_lookAtLines_2 : decode cX8_lookAtLines 2 = .ok (.putfield 249, 3) := by decide +kernel
theorem dX8_lookAtLines_5 : decode cX8_lookAtLines 5 = .ok (.iconst 0, 1) := by decide +kernel
theorem dX8_lookAtLines_6 : decode cX8_lookAtLines 6 = .ok (.istore_n 1, 1) := by decide +kernel
theorem dX8_lookAtLines_7 : decode cX8_lookAtLines 7 = .ok (.iconst 0, 1) := by decide +kernel
theorem dX8_lookAtLines_8 : decode cX8_lookAtLines 8 = .ok (.istore_n 2, 1) := by decide +kernel
theorem dX8_lookAtLines_9 : decode cX8_lookAtLines 9 = .ok (.iload_n 1, 1) := by decide +kernel
theorem dX8_lookAtLines_10 : decode cX8_lookAtLines 10 = .ok (.aload_n 0, 1) := by decide +kernel
theorem dX8_lookAtLines_11 : decode cX8_lookAtLines 11 = .ok (.getfield 64, 3) := by decide +kernel
theorem dX8_lookAtLines_14 : decode cX8_lookAtLines 14 = .ok (.if_icmp .ge 122, 3) := by decide +kernel
theorem dX8_lookAtLines_17 : decode cX8_lookAtLines 17 = .ok (.iload_n 1, 1) := by decide +kernel
theorem dX8_lookAtLines_18 : decode cX8_lookAtLines 18 = .ok (.istore_n 3, 1) := by decide +kernel
theorem dX8_lookAtLines_19 : decode cX8_lookAtLines 19 = .ok (.iload_n 3, 1) := by decide +kernel
theorem dX8_lookAtLines_20 : decode cX8_lookAtLines 20 = .ok (.aload_n 0, 1) := by decide +kernel
theorem dX8_lookAtLines_21 : decode cX8_lookAtLines 21 = .ok (.getfield 64, 3) := by decide +kernel
theorem dX8_lookAtLines_24 : decode cX8_lookAtLines 24 = .ok (.if_icmp .ge 20, 3) := by decide +kernel
theorem dX8_lookAtLines_27 : decode cX8_lookAtLines 27 = .ok (.aload_n 0, 1) := by decide +kernel
theorem dX8_lookAtLines_28 : decode cX8_lookAtLines 28 = .ok (.getfield 7, 3) := by decide +kernel
theorem dX8_lookAtLines_31 : decode cX8_lookAtLines 31 = .ok (.iload_n 3, 1) := by decide +kernel
theorem dX8_lookAtLines_32 : decode cX8_lookAtLines 32 = .ok (.iaload, 1) := by decide +kernel
theorem dX8_lookAtLines_33 : decode cX8_lookAtLines 33 = .ok (.bipush 10, 2) := by decide +kernel
theorem dX8_lookAtLines_35 : decode cX8_lookAtLines 35 = .ok (.if_icmp .eq 9, 3) := by decide +kernel
theorem dX8_lookAtLines_38 : decode cX8_lookAtLines 38 = .ok (.iinc 3 1, 3) := by decide +kernel
theorem dX8_lookAtLines_41 : decode cX8_lookAtLines 41 = .ok (.goto (-22), 3) := by decide +kernel
theorem dX8_lookAtLines_44 : decode cX8_lookAtLines 44 = .ok (.aload_n 0, 1) := by decide +kernel
theorem dX8_lookAtLines_45 : decode cX8_lookAtLines 45 = .ok (.getfield 16, 3) := by decide +kernel
theorem dX8_lookAtLines_48 : decode cX8_lookAtLines 48 = .ok (.aload_n 0, 1) := by decide +kernel
theorem dX8_lookAtLines_49 : decode cX8_lookAtLines 49 = .ok (.getfield 249, 3) := by decide +kernel
theorem dX8_lookAtLines_52 : decode cX8_lookAtLines 52 = .ok (.iload_n 1, 1) := by decide +kernel
theorem dX8_lookAtLines_53 : decode cX8_lookAtLines 53 = .ok (.iastore, 1) := by decide +kernel
theorem dX8_lookAtLines_54 : decode cX8_lookAtLines 54 = .ok (.aload_n 0, 1) := by decide +kernel
theorem dX8_lookAtLines_55 : decode cX8_lookAtLines 55 = .ok (.getfield 19, 3) := by decide +kernel
theorem dX8_lookAtLines_58 : decode cX8_lookAtLines 58 = .ok (.aload_n 0, 1) := by decide +kernel
theorem dX8_lookAtLines_59 : decode cX8_lookAtLines 59 = .ok (.getfield 249, 3) := by decide +kernel
theorem dX8_lookAtLines_62 : decode cX8_lookAtLines 62 = .ok (.iload_n 3, 1) := by decide +kernel
theorem dX8_lookAtLines_63 : decode cX8_lookAtLines 63 = .ok (.iload_n 1, 1) := by decide +kernel
theorem dX8_lookAtLines_64 : decode cX8_lookAtLines 64 = .ok (.isub, 1) := by decide +kernel
theorem dX8_lookAtLines_65 : decode cX8_lookAtLines 65 = .ok (.iastore, 1) := by decide +kernel
theorem dX8_lookAtLines_66 : decode cX8_lookAtLines 66 = .ok (.aload_n 0, 1) := by decide +kernel
theorem dX8_lookAtLines_67 : decode cX8_lookAtLines 67 = .ok (.getfield 22, 3) := by decide +kernel
theorem dX8_lookAtLines_70 : decode cX8_lookAtLines 70 = .ok (.aload_n 0, 1) := by decide +kernel
theorem dX8_lookAtLines_71 : decode cX8_lookAtLines 71 = .ok (.getfield 249, 3) := by decide +kernel
theorem dX8_lookAtLines_74 : decode cX8_lookAtLines 74 = .ok (.aload_n 0, 1) := by decide +kernel
theorem dX8_lookAtLines_75 : decode cX8_lookAtLines 75 = .ok (.iload_n 1, 1) := by decide +kernel
theorem dX8_lookAtLines_76 : decode cX8_lookAtLines 76 = .ok (.iload_n 3, 1) := by decide +kernel
theorem dX8_lookAtLines_77 : decode cX8_lookAtLines 77 = .ok (.invokevirtual 252, 3) := by decide +kernel
theorem dX8_lookAtLines_80 : decode cX8_lookAtLines 80 = .ok (.iastore, 1) := by decide +kernel
theorem dX8_lookAtLines_81 : decode cX8_lookAtLines 81 = .ok (.aload_n 0, 1) := by decide +kernel
theorem dX8_lookAtLines_82 : decode cX8_lookAtLines 82 = .ok (.getfield 22, 3) := by decide +kernel
theorem dX8_lookAtLines_85 : decode cX8_lookAtLines 85 = .ok (.aload_n 0, 1) := by decide +kernel
theorem dX8_lookAtLines_86 : decode cX8_lookAtLines 86 = .ok (.getfield 249, 3) := by decide +kernel
theorem dX8_lookAtLines_89 : decode cX8_lookAtLines 89 = .ok (.iaload, 1) := by decide +kernel
theorem dX8_lookAtLines_90 : decode cX8_lookAtLines 90 = .ok (.ifCond .le 8, 3) := by decide +kernel
theorem dX8_lookAtLines_93 : decode cX8_lookAtLines 93 = .ok (.iconst 0, 1) := by decide +kernel
theorem dX8_lookAtLines_94 : decode cX8_lookAtLines 94 = .ok (.istore_n 2, 1) := by decide +kernel
