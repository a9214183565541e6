theorem dX0_isLatin_0 : decode cX0_isLatin 0 = .ok (.iload_n 0, 1) := by decide +kernel
theorem dX0_isLatin_1 : decode cX0_isLatin 1 = .ok (.bipush 65, 2) := by decide +kernel
theorem dX0_isLatin_3 : decode cX0_isLatin 3 = .ok (.if_icmp .lt 9, 3) := by decide +kernel
theorem dX0_isLatin_6 : decode cX0_isLatin 6 = .ok (.iload_n 0, 1) := by decide +kernel
theorem dX0_isLatin_7 : decode cX0_isLatin 7 = .ok (.bipush 90, 2) := by decide +kernel
theorem dX0_isLatin_9 : decode cX0_isLatin 9 = .ok (.if_icmp .le 15, 3) := by decide +kernel
theorem dX0_isLatin_12 : decode cX0_isLatin 12 = .ok (.iload_n 0, 1) := by decide +kernel
theorem dX0_isLatin_13 : decode cX0_isLatin 13 = .ok (.bipush 97, 2) := by decide +kernel
theorem dX0_isLatin_15 : decode cX0_isLatin 15 = .ok (.if_icmp .lt 13, 3) := by decide +kernel
theorem dX0_isLatin_18 : decode cX0_isLatin 18 = .ok (.iload_n 0, 1) := by decide +kernel
theorem dX0_isLatin_19 : decode cX0_isLatin 19 = .ok (.bipush 122, 2) := by decide +kernel
theorem dX0_isLatin_21 : decode cX0_isLatin 21 = .ok (.if_icmp .gt 7, 3) := by decide +kernel
theorem dX0_isLatin_24 : decode cX0_isLatin 24 = .ok (.iconst 1, 1) := by decide +kernel
theorem dX0_isLatin_25 : decode cX0_isLatin 25 = .ok (.goto 4, 3) := by decide +kernel
theorem dX0_isLatin_28 : decode cX0_isLatin 28 = .ok (.iconst 0, 1) := by decide +kernel
theorem dX0_isLatin_29 : decode cX0_isLatin 29 = .ok (.ireturn, 1) := by decide +kernel
theorem dX0_isDigit_0 : decode cX0_isDigit 0 = .ok (.iload_n 0, 1) := by decide +kernel
theorem dX0_isDigit_1 : decode cX0_isDigit 1 = .ok (.bipush 48, 2) := by decide +kernel
theorem dX0_isDigit_3 : decode cX0_isDigit 3 = .ok (.if_icmp .lt 13, 3) := by decide +kernel
theorem dX0_isDigit_6 : decode cX0_isDigit 6 = .ok (.iload_n 0, 1) := by decide +kernel
theorem dX0_isDigit_7 : decode cX0_isDigit 7 = .ok (.bipush 57, 2) := by decide +kernel
theorem dX0_isDigit_9 : decode cX0_isDigit 9 = .ok (.if_icmp .gt 7, 3) := by decide +kernel
theorem dX0_isDigit_12 : decode cX0_isDigit 12 = .ok (.iconst 1, 1) := by decide +kernel
theorem dX0_isDigit_13 : decode cX0_isDigit 13 = .ok (.goto 4, 3) := by decide +kernel
theorem dX0_isDigit_16 : decode cX0_isDigit 16 = .ok (.iconst 0, 1) := by decide +kernel
theorem dX0_isDigit_17 : decode cX0_isDigit 17 = .ok (.ireturn, 1) := by decide +kernel
theorem dX0_isBlank_0 : decode cX0_isBlank 0 = .ok (.iload_n 0, 1) := by decide +kernel
theorem dX0_isBlank_1 : decode cX0_isBlank 1 = .ok (.bipush 9, 2) := by decide +kernel
theorem dX0_isBlank_3 : decode cX0_isBlank 3 = .ok (.if_icmp .eq 21, 3) := by decide +kernel
theorem dX0_isBlank_6 : decode cX0_isBlank 6 = .ok (.iload_n 0, 1) := by decide +kernel
theorem dX0_isBlank_7 : decode cX0_isBlank 7 = .ok (.bipush 10, 2) := by decide +kernel
theorem dX0_isBlank_9 : decode cX0_isBlank 9 = .ok (.if_icmp .eq 15, 3) := by decide +kernel
theorem dX0_isBlank_12 : decode cX0_isBlank 12 = .ok (.iload_n 0, 1) := by decide +kernel
theorem dX0_isBlank_13 : decode cX0_isBlank 13 = .ok (.bipush 13, 2) := by decide +kernel
theorem dX0_isBlank_15 : decode cX0_isBlank 15 = .ok (.if_icmp .eq 9, 3) := by decide +kernel
theorem dX0_isBlank_18 : decode cX0_isBlank 18 = .ok (.iload_n 0, 1) := by decide +kernel
theorem dX0_isBlank_19 : decode cX0_isBlank 19 = .ok (.bipush 32, 2) := by decide +kernel
theorem dX0_isBlank_21 : decode cX0_isBlank 21 = .ok (.if_icmp .ne 7, 3) := by decide +kernel
theorem dX0_isBlank_24 : decode cX0_isBlank 24 = .ok (.iconst 1, 1) := by decide +kernel
theorem dX0_isBlank_25 : decode cX0_isBlank 25 = .ok (.goto 4, 3) := by decide +kernel
theorem dX0_isBlank_28 : decode cX0_isBlank 28 = .ok (.iconst 0, 1) := by decide +kernel
theorem dX0_isBlank_29 : decode cX0_isBlank 29 = .ok (.ireturn, 1) := by decide +kernel
theorem dX0_isLetter_0 : decode cX0_isLetter 0 = .ok (.iload_n 0, 1) := by decide +kernel
theorem dX0_isLetter_1 : decode cX0_isLetter 1 = .ok (.sipush 687, 3) := by decide +kernel
theorem dX0_isLetter_4 : decode cX0_isLetter 4 = .ok (.if_icmp .gt 54, 3) := by decide +kernel
theorem dX0_isLetter_7 : decode cX0_isLetter 7 = .ok (.iload_n 0, 1) := by decide +kernel
theorem dX0_isLetter_8 : decode cX0_isLetter 8 = .ok (.sipush 192, 3) := by decide +kernel
theorem dX0_isLetter_11 : decode cX0_isLetter 11 = .ok (.if_icmp .lt 17, 3) := by decide +kernel
theorem dX0_isLetter_14 : decode cX0_isLetter 14 = .ok (.iload_n 0, 1) := by decide +kernel
theorem dX0_isLetter_15 : decode cX0_isLetter 15 = .ok (.sipush 215, 3) := by decide +kernel
theorem dX0_isLetter_18 : decode cX0_isLetter 18 = .ok (.if_icmp .eq 10, 3) := by decide +kernel
theorem dX0_isLetter_21 : decode cX0_isLetter 21 = .ok (.iload_n 0, 1) := by decide +kernel
theorem dX0_isLetter_22 : decode cX0_isLetter 22 = .ok (.sipush 247, 3) := by decide +kernel
theorem dX0_isLetter_25 : decode cX0_isLetter 25 = .ok (.if_icmp .ne 27, 3) := by decide +kernel
theorem dX0_isLetter_28 : decode cX0_isLetter 28 = .ok (.iload_n 0, 1) := by decide +kernel
theorem dX0_isLetter_29 : decode cX0_isLetter 29 = .ok (.bipush 65, 2) := by decide +kernel
theorem dX0_isLetter_31 : decode cX0_isLetter 31 = .ok (.if_icmp .lt 9, 3) := by decide +kernel
theorem dX0_isLetter_34 : decode cX0_isLetter 34 = .ok (.iload_n 0, 1) := by decide +kernel
theorem dX0_isLetter_35 : decode cX0_isLetter 35 = .ok (.bipush 90, 2) := by decide +kernel
theorem dX0_isLetter_37 : decode cX0_isLetter 37 = .ok (.if_icmp .le 15, 3) := by decide +kernel
theorem dX0_isLetter_40 : decode cX0_isLetter 40 = .ok (.iload_n 0, 1) := by decide +kernel
theorem dX0_isLetter_41 : decode cX0_isLetter 41 = .ok (.bipush 97, 2) := by decide +kernel
theorem dX0_isLetter_43 : decode cX0_isLetter 43 = .ok (.if_icmp .lt 13, 3) := by decide +kernel
theorem dX0_isLetter_46 : decode cX0_isLetter 46 = .ok (.iload_n 0, 1) := by decide +kernel
theorem dX0_isLetter_47 : decode cX0_isLetter 47 = .ok (.bipush 122, 2) := by decide +kernel
theorem dX0_isLetter_49 : decode cX0_isLetter 49 = .ok (.if_icmp .gt 7, 3) := by decide +kernel
theorem dX0_isLetter_52 : decode cX0_isLetter 52 = .ok (.iconst 1, 1) := by decide +kernel
theorem dX0_isLetter_53 : decode cX0_isLetter 53 = .ok (.goto 4, 3) := by decide +kernel
theorem dX0_isLetter_56 : decode cX0_isLetter 56 = .ok (.iconst 0, 1) := by decide +kernel
theorem dX0_isLetter_57 : decode cX0_isLetter 57 = .ok (.ireturn, 1) := by decide +kernel
theorem dX0_isLetter_58 : decode cX0_isLetter 58 = .ok (.iload_n 0, 1) := by decide +kernel
theorem dX0_isLetter_59 : decode cX0_isLetter 59 = .ok (.sipush 880, 3) := by decide +kernel
theorem dX0_isLetter_62 : decode cX0_isLetter 62 = .ok (.if_icmp .lt 42, 3) := by decide +kernel
theorem dX0_isLetter_65 : decode cX0_isLetter 65 = .ok (.iload_n 0, 1) := by decide +kernel
theorem dX0_isLetter_66 : decode cX0_isLetter 66 = .ok (.sipush 1423, 3) := by decide +kernel
theorem dX0_isLetter_69 : decode cX0_isLetter 69 = .ok (.if_icmp .gt 35, 3) := by decide +kernel
theorem dX0_isLetter_72 : decode cX0_isLetter 72 = .ok (.iload_n 0, 1) := by decide +kernel
theorem dX0_isLetter_73 : decode cX0_isLetter 73 = .ok (.sipush 894, 3) := by decide +kernel
theorem dX0_isLetter_76 : decode cX0_isLetter 76 = .ok (.if_icmp .eq 28, 3) := by decide +kernel
theorem dX0_isLetter_79 : decode cX0_isLetter 79 = .ok (.iload_n 0, 1) := by decide +kernel
theorem dX0_isLetter_80 : decode cX0_isLetter 80 = .ok (.sipush 903, 3) := by decide +kernel
theorem dX0_isLetter_83 : decode cX0_isLetter 83 = .ok (.if_icmp .eq 21, 3) := by decide +kernel
theorem dX0_isLetter_86 : decode cX0_isLetter 86 = .ok (.iload_n 0, 1) := by decide +kernel
theorem dX0_isLetter_87 : decode cX0_isLetter 87 = .ok (.sipush 1154, 3) := by decide +kernel
theorem dX0_isLetter_90 : decode cX0_isLetter 90 = .ok (.if_icmp .lt 10, 3) := by decide +kernel
theorem dX0_isLetter_93 : decode cX0_isLetter 93 = .ok (.iload_n 0, 1) := by decide +kernel
theorem dX0_isLetter_94 : decode cX0_isLetter 94 = .ok (.sipush 1161, 3) := by decide +kernel
theorem dX0_isLetter_97 : decode cX0_isLetter 97 = .ok (.if_icmp .le 7, 3) := by decide +kernel
theorem dX0_isLetter_100 : decode cX0_isLetter 100 = .ok (.iconst 1, 1) := by decide +kernel
theorem dX0_isLetter_101 : decode cX0_isLetter 101 = .ok (.goto 4, 3) := by decide +kernel
theorem dX0_isLetter_104 : decode cX0_isLetter 104 = .ok (.iconst 0, 1) := by decide +kernel
theorem dX0_isLetter_105 : decode cX0_isLetter 105 = .ok (.ireturn, 1) := by decide +kernel
set_option maxRecDepth 20000 in
theorem ggX0_isLetterOrDigit_X0_isDigit : GoodIn wsX0_isLetterOrDigit wsX0_isDigit := goodIn_r _ [4] (by decide +kernel) (by decide +kernel)
set_option maxRecDepth 20000 in
theorem gX0_isLetterOrDigit_X0_isDigit : GoodIn wsX0_isLetterOrDigit (va_wsS RX0 9 yX0_isDigit wsX0_isDigit) := goodIn_app (goodIn_of _ (by decide +kernel)) ggX0_isLetterOrDigit_X0_isDigit
set_option maxRecDepth 20000 in
theorem ggX0_isLetterOrDigit_X0_isLetter : GoodIn wsX0_isLetterOrDigit wsX0_isLetter := goodIn_r _ [7] (by decide +kernel) (by decide +kernel)
set_option maxRecDepth 20000 in
theorem gX0_isLetterOrDigit_X0_isLetter : GoodIn wsX0_isLetterOrDigit (va_wsS RX0 15 yX0_isLetter wsX0_isLetter) := goodIn_app (goodIn_of _ (by decide +kernel)) ggX0_isLetterOrDigit_X0_isLetter
theorem dX0_isLetterOrDigit_0 : decode cX0_isLetterOrDigit 0 = .ok (.iload_n 0, 1) := by decide +kernel
theorem dX0_isLetterOrDigit_1 : decode cX0_isLetterOrDigit 1 = .ok (.invokestatic 9, 3) := by decide +kernel
theorem dX0_isLetterOrDigit_4 : decode cX0_isLetterOrDigit 4 = .ok (.ifCond .ne 10, 3) := by decide +kernel
theorem dX0_isLetterOrDigit_7 : decode cX0_isLetterOrDigit 7 = .ok (.iload_n 0, 1) := by decide +kernel
theorem dX0_isLetterOrDigit_8 : decode cX0_isLetterOrDigit 8 = .ok (.invokestatic 15, 3) := by decide +kernel
theorem dX0_isLetterOrDigit_11 : decode cX0_isLetterOrDigit 11 = .ok (.ifCond .eq 7, 3) := by decide +kernel
theorem dX0_isLetterOrDigit_14 : decode cX0_isLetterOrDigit 14 = .ok (.iconst 1, 1) := by decide +kernel
theorem dX0_isLetterOrDigit_15 : decode cX0_isLetterOrDigit 15 = .ok (.goto 4, 3) := by decide +kernel
theorem dX0_isLetterOrDigit_18 : decode cX0_isLetterOrDigit 18 = .ok (.iconst 0, 1) := by decide +kernel
theorem dX0_isLetterOrDigit_19 : decode cX0_isLetterOrDigit 19 = .ok (.ireturn, 1) := by decide +kernel
theorem dX0_isJoin_0 : decode cX0_isJoin 0 = .ok (.iload_n 0, 1) := by decide +kernel
theorem dX0_isJoin_1 : decode cX0_isJoin 1 = .ok (.bipush 39, 2) := by decide +kernel
theorem dX0_isJoin_3 : decode cX0_isJoin 3 = .ok (.if_icmp .eq 27, 3) := by decide +kernel
theorem dX0_isJoin_6 : decode cX0_isJoin 6 = .ok (.iload_n 0, 1) := by decide +kernel
theorem dX0_isJoin_7 : decode cX0_isJoin 7 = .ok (.bipush 46, 2) := by decide +kernel
theorem dX0_isJoin_9 : decode cX0_isJoin 9 = .ok (.if_icmp .eq 21, 3) := by decide +kernel
theorem dX0_isJoin_12 : decode cX0_isJoin 12 = .ok (.iload_n 0, 1) := by decide +kernel
theorem dX0_isJoin_13 : decode cX0_isJoin 13 = .ok (.bipush 95, 2) := by decide +kernel
theorem dX0_isJoin_15 : decode cX0_isJoin 15 = .ok (.if_icmp .eq 15, 3) := by decide +kernel
theorem dX0_isJoin_18 : decode cX0_isJoin 18 = .ok (.iload_n 0, 1) := by decide +kernel
theorem dX0_isJoin_19 : decode cX0_isJoin 19 = .ok (.bipush 45, 2) := by decide +kernel
theorem dX0_isJoin_21 : decode cX0_isJoin 21 = .ok (.if_icmp .eq 9, 3) := by decide +kernel
theorem dX0_isJoin_24 : decode cX0_isJoin 24 = .ok (.iload_n 0, 1) := by decide +kernel
theorem dX0_isJoin_25 : decode cX0_isJoin 25 = .ok (.bipush 64, 2) := by decide +kernel
theorem dX0_isJoin_27 : decode cX0_isJoin 27 = .ok (.if_icmp .ne 7, 3) := by decide +kernel
theorem dX0_isJoin_30 : decode cX0_isJoin 30 = .ok (.iconst 1, 1) := by decide +kernel
theorem dX0_isJoin_31 : decode cX0_isJoin 31 = .ok (.goto 4, 3) := by decide +kernel
theorem dX0_isJoin_34 : decode cX0_isJoin 34 = .ok (.iconst 0, 1) := by decide +kernel
theorem dX0_isJoin_35 : decode cX0_isJoin 35 = .ok (.ireturn, 1) := by decide +kernel
set_option maxRecDepth 20000 in
theorem ggX0_small_X0_smallLatin : GoodIn wsX0_small wsX0_smallLatin := goodIn_r _ [4] (by decide +kernel) (by decide +kernel)
set_option maxRecDepth 20000 in
theorem gX0_small_X0_smallLatin : GoodIn wsX0_small (va_wsS RX0 18 yX0_smallLatin wsX0_smallLatin) := goodIn_app (goodIn_of _ (by decide +kernel)) ggX0_small_X0_smallLatin
set_option maxRecDepth 20000 in
theorem ggX0_small_X0_smallGreek : GoodIn wsX0_small wsX0_smallGreek := goodIn_r _ [7] (by decide +kernel) (by decide +kernel)
set_option maxRecDepth 20000 in
theorem gX0_small_X0_smallGreek : GoodIn wsX0_small (va_wsS RX0 22 yX0_smallGreek wsX0_smallGreek) := goodIn_app (goodIn_of _ (by decide +kernel)) ggX0_small_X0_smallGreek
set_option maxRecDepth 20000 in
theorem ggX0_small_X0_smallCyrillic : GoodIn wsX0_small wsX0_smallCyrillic := goodIn_r _ [10] (by decide +kernel) (by decide +kernel)
set_option maxRecDepth 20000 in
theorem gX0_small_X0_smallCyrillic : GoodIn wsX0_small (va_wsS RX0 25 yX0_smallCyrillic wsX0_smallCyrillic) := goodIn_app (goodIn_of _ (by decide +kernel)) ggX0_small_X0_smallCyrillic
theorem dX0_small_0 : decode cX0_small 0 = .ok (.iload_n 0, 1) := by decide +kernel
theorem dX0_small_1 : decode cX0_small 1 = .ok (.sipush 256, 3) := by decide +kernel
theorem dX0_small_4 : decode cX0_small 4 = .ok (.if_icmp .ge 45, 3) := by decide +kernel
theorem dX0_small_7 : decode cX0_small 7 = .ok (.iload_n 0, 1) := by decide +kernel
theorem dX0_small_8 : decode cX0_small 8 = .ok (.bipush 65, 2) := by decide +kernel
theorem dX0_small_10 : decode cX0_small 10 = .ok (.if_icmp .lt 9, 3) := by decide +kernel
theorem dX0_small_13 : decode cX0_small 13 = .ok (.iload_n 0, 1) := by decide +kernel
theorem dX0_small_14 : decode cX0_small 14 = .ok (.bipush 90, 2) := by decide +kernel
theorem dX0_small_16 : decode cX0_small 16 = .ok (.if_icmp .le 24, 3) := by decide +kernel
theorem dX0_small_19 : decode cX0_small 19 = .ok (.iload_n 0, 1) := by decide +kernel
theorem dX0_small_20 : decode cX0_small 20 = .ok (.sipush 192, 3) := by decide +kernel
theorem dX0_small_23 : decode cX0_small 23 = .ok (.if_icmp .lt 24, 3) := by decide +kernel
theorem dX0_small_26 : decode cX0_small 26 = .ok (.iload_n 0, 1) := by decide +kernel
theorem dX0_small_27 : decode cX0_small 27 = .ok (.sipush 222, 3) := by decide +kernel
theorem dX0_small_30 : decode cX0_small 30 = .ok (.if_icmp .gt 17, 3) := by decide +kernel
theorem dX0_small_33 : decode cX0_small 33 = .ok (.iload_n 0, 1) := by decide +kernel
theorem dX0_small_34 : decode cX0_small 34 = .ok (.sipush 215, 3) := by decide +kernel
theorem dX0_small_37 : decode cX0_small 37 = .ok (.if_icmp .eq 10, 3) := by decide +kernel
theorem dX0_small_40 : decode cX0_small 40 = .ok (.iload_n 0, 1) := by decide +kernel
theorem dX0_small_41 : decode cX0_small 41 = .ok (.bipush 32, 2) := by decide +kernel
theorem dX0_small_43 : decode cX0_small 43 = .ok (.iadd, 1) := by decide +kernel
theorem dX0_small_44 : decode cX0_small 44 = .ok (.goto 4, 3) := by decide +kernel
theorem dX0_small_47 : decode cX0_small 47 = .ok (.iload_n 0, 1) := by decide +kernel
theorem dX0_small_48 : decode cX0_small 48 = .ok (.ireturn, 1) := by decide +kernel
theorem dX0_small_49 : decode cX0_small 49 = .ok (.iload_n 0, 1) := by decide +kernel
theorem dX0_small_50 : decode cX0_small 50 = .ok (.sipush 880, 3) := by decide +kernel
theorem dX0_small_53 : decode cX0_small 53 = .ok (.if_icmp .ge 10, 3) := by decide +kernel
theorem dX0_small_56 : decode cX0_small 56 = .ok (.iload_n 0, 1) := by decide +kernel
theorem dX0_small_57 : decode cX0_small 57 = .ok (.invokestatic 18, 3) := by decide +kernel
theorem dX0_small_60 : decode cX0_small 60 = .ok (.goto 21, 3) := by decide +kernel
theorem dX0_small_63 : decode cX0_small 63 = .ok (.iload_n 0, 1) := by decide +kernel
theorem dX0_small_64 : decode cX0_small 64 = .ok (.sipush 1024, 3) := by decide +kernel
theorem dX0_small_67 : decode cX0_small 67 = .ok (.if_icmp .ge 10, 3) := by decide +kernel
theorem dX0_small_70 : decode cX0_small 70 = .ok (.iload_n 0, 1) := by decide +kernel
theorem dX0_small_71 : decode cX0_small 71 = .ok (.invokestatic 22, 3) := by decide +kernel
theorem dX0_small_74 : decode cX0_small 74 = .ok (.goto 7, 3) := by decide +kernel
theorem dX0_small_77 : decode cX0_small 77 = .ok (.iload_n 0, 1) := by decide +kernel
theorem dX0_small_78 : decode cX0_small 78 = .ok (.invokestatic 25, 3) := by decide +kernel
theorem dX0_small_81 : decode cX0_small 81 = .ok (.ireturn, 1) := by decide +kernel
theorem dX0_smallLatin_0 : decode cX0_smallLatin 0 = .ok (.iload_n 0, 1) := by decide +kernel
theorem dX0_smallLatin_1 : decode cX0_smallLatin 1 = .ok (.sipush 311, 3) := by decide +kernel
theorem dX0_smallLatin_4 : decode cX0_smallLatin 4 = .ok (.if_icmp .le 17, 3) := by decide +kernel
theorem dX0_smallLatin_7 : decode cX0_smallLatin 7 = .ok (.iload_n 0, 1) := by decide +kernel
theorem dX0_smallLatin_8 : decode cX0_smallLatin 8 = .ok (.sipush 330, 3) := by decide +kernel
theorem dX0_smallLatin_11 : decode cX0_smallLatin 11 = .ok (.if_icmp .lt 24, 3) := by decide +kernel
theorem dX0_smallLatin_14 : decode cX0_smallLatin 14 = .ok (.iload_n 0, 1) := by decide +kernel
theorem dX0_smallLatin_15 : decode cX0_smallLatin 15 = .ok (.sipush 375, 3) := by decide +kernel
theorem dX0_smallLatin_18 : decode cX0_smallLatin 18 = .ok (.if_icmp .gt 17, 3) := by decide +kernel
theorem dX0_smallLatin_21 : decode cX0_smallLatin 21 = .ok (.iload_n 0, 1) := by decide +kernel
theorem dX0_smallLatin_22 : decode cX0_smallLatin 22 = .ok (.iconst 1, 1) := by decide +kernel
theorem dX0_smallLatin_23 : decode cX0_smallLatin 23 = .ok (.iand, 1) := by decide +kernel
theorem dX0_smallLatin_24 : decode cX0_smallLatin 24 = .ok (.ifCond .ne 9, 3) := by decide +kernel
theorem dX0_smallLatin_27 : decode cX0_smallLatin 27 = .ok (.iload_n 0, 1) := by decide +kernel
theorem dX0_smallLatin_28 : decode cX0_smallLatin 28 = .ok (.iconst 1, 1) := by decide +kernel
theorem dX0_smallLatin_29 : decode cX0_smallLatin 29 = .ok (.iadd, 1) := by decide +kernel
theorem dX0_smallLatin_30 : decode cX0_smallLatin 30 = .ok (.goto 4, 3) := by decide +kernel
theorem dX0_smallLatin_33 : decode cX0_smallLatin 33 = .ok (.iload_n 0, 1) := by decide +kernel
theorem dX0_smallLatin_34 : decode cX0_smallLatin 34 = .ok (.ireturn, 1) := by decide +kernel
theorem dX0_smallLatin_35 : decode cX0_smallLatin 35 = .ok (.iload_n 0, 1) := by decide +kernel
theorem dX0_smallLatin_36 : decode cX0_smallLatin 36 = .ok (.sipush 313, 3) := by decide +kernel
theorem dX0_smallLatin_39 : decode cX0_smallLatin 39 = .ok (.if_icmp .lt 10, 3) := by decide +kernel
theorem dX0_smallLatin_42 : decode cX0_smallLatin 42 = .ok (.iload_n 0, 1) := by decide +kernel
theorem dX0_smallLatin_43 : decode cX0_smallLatin 43 = .ok (.sipush 328, 3) := by decide +kernel
theorem dX0_smallLatin_46 : decode cX0_smallLatin 46 = .ok (.if_icmp .le 17, 3) := by decide +kernel
theorem dX0_smallLatin_49 : decode cX0_smallLatin 49 = .ok (.iload_n 0, 1) := by decide +kernel
theorem dX0_smallLatin_50 : decode cX0_smallLatin 50 = .ok (.sipush 377, 3) := by decide +kernel
theorem dX0_smallLatin_53 : decode cX0_smallLatin 53 = .ok (.if_icmp .lt 25, 3) := by decide +kernel
theorem dX0_smallLatin_56 : decode cX0_smallLatin 56 = .ok (.iload_n 0, 1) := by decide +kernel
theorem dX0_smallLatin_57 : decode cX0_smallLatin 57 = .ok (.sipush 382, 3) := by decide +kernel
theorem dX0_smallLatin_60 : decode cX0_smallLatin 60 = .ok (.if_icmp .gt 18, 3) := by decide +kernel
theorem dX0_smallLatin_63 : decode cX0_smallLatin 63 = .ok (.iload_n 0, 1) := by decide +kernel
theorem dX0_smallLatin_64 : decode cX0_smallLatin 64 = .ok (.iconst 1, 1) := by decide +kernel
theorem dX0_smallLatin_65 : decode cX0_smallLatin 65 = .ok (.iand, 1) := by decide +kernel
theorem dX0_smallLatin_66 : decode cX0_smallLatin 66 = .ok (.iconst 1, 1) := by decide +kernel
theorem dX0_smallLatin_67 : decode cX0_smallLatin 67 = .ok (.if_icmp .ne 9, 3) := by decide +kernel
theorem dX0_smallLatin_70 : decode cX0_smallLatin 70 = .ok (.iload_n 0, 1) := by decide +kernel
theorem dX0_smallLatin_71 : decode cX0_smallLatin 71 = .ok (.iconst 1, 1) := by decide +kernel
theorem dX0_smallLatin_72 : decode cX0_smallLatin 72 = .ok (.iadd, 1) := by decide +kernel
theorem dX0_smallLatin_73 : decode cX0_smallLatin 73 = .ok (.goto 4, 3) := by decide +kernel
theorem dX0_smallLatin_76 : decode cX0_smallLatin 76 = .ok (.iload_n 0, 1) := by decide +kernel
theorem dX0_smallLatin_77 : decode cX0_smallLatin 77 = .ok (.ireturn, 1) := by decide +kernel
theorem dX0_smallLatin_78 : decode cX0_smallLatin 78 = .ok (.iload_n 0, 1) := by decide +kernel
theorem dX0_smallLatin_79 : decode cX0_smallLatin 79 = .ok (.sipush 376, 3) := by decide +kernel
theorem dX0_smallLatin_82 : decode cX0_smallLatin 82 = .ok (.if_icmp .ne 9, 3) := by decide +kernel
theorem dX0_smallLatin_85 : decode cX0_smallLatin 85 = .ok (.sipush 255, 3) := by decide +kernel
theorem dX0_smallLatin_88 : decode cX0_smallLatin 88 = .ok (.goto 4, 3) := by decide +kernel
theorem dX0_smallLatin_91 : decode cX0_smallLatin 91 = .ok (.iload_n 0, 1) := by decide +kernel
theorem dX0_smallLatin_92 : decode cX0_smallLatin 92 = .ok (.ireturn, 1) := by decide +kernel
theorem dX0_smallGreek_0 : decode cX0_smallGreek 0 = .ok (.iload_n 0, 1) := by decide +kernel
theorem dX0_smallGreek_1 : decode cX0_smallGreek 1 = .ok (.sipush 913, 3) := by decide +kernel
theorem dX0_smallGreek_4 : decode cX0_smallGreek 4 = .ok (.if_icmp .lt 26, 3) := by decide +kernel
theorem dX0_smallGreek_7 : decode cX0_smallGreek 7 = .ok (.iload_n 0, 1) := by decide +kernel
theorem dX0_smallGreek_8 : decode cX0_smallGreek 8 = .ok (.sipush 939, 3) := by decide +kernel
theorem dX0_smallGreek_11 : decode cX0_smallGreek 11 = .ok (.if_icmp .gt 19, 3) := by decide +kernel
theorem dX0_smallGreek_14 : decode cX0_smallGreek 14 = .ok (.iload_n 0, 1) := by decide +kernel
theorem dX0_smallGreek_15 : decode cX0_smallGreek 15 = .ok (.sipush 930, 3) := by decide +kernel
theorem dX0_smallGreek_18 : decode cX0_smallGreek 18 = .ok (.if_icmp .ne 7, 3) := by decide +kernel
theorem dX0_smallGreek_21 : decode cX0_smallGreek 21 = .ok (.iload_n 0, 1) := by decide +kernel
theorem dX0_smallGreek_22 : decode cX0_smallGreek 22 = .ok (.goto 7, 3) := by decide +kernel
theorem dX0_smallGreek_25 : decode cX0_smallGreek 25 = .ok (.iload_n 0, 1) := by decide +kernel
theorem dX0_smallGreek_26 : decode cX0_smallGreek 26 = .ok (.bipush 32, 2) := by decide +kernel
theorem dX0_smallGreek_28 : decode cX0_smallGreek 28 = .ok (.iadd, 1) := by decide +kernel
theorem dX0_smallGreek_29 : decode cX0_smallGreek 29 = .ok (.ireturn, 1) := by decide +kernel
theorem dX0_smallGreek_30 : decode cX0_smallGreek 30 = .ok (.iload_n 0, 1) := by decide +kernel
theorem dX0_smallGreek_31 : decode cX0_smallGreek 31 = .ok (.sipush 904, 3) := by decide +kernel
theorem dX0_smallGreek_34 : decode cX0_smallGreek 34 = .ok (.if_icmp .lt 15, 3) := by decide +kernel
theorem dX0_smallGreek_37 : decode cX0_smallGreek 37 = .ok (.iload_n 0, 1) := by decide +kernel
theorem dX0_smallGreek_38 : decode cX0_smallGreek 38 = .ok (.sipush 906, 3) := by decide +kernel
theorem dX0_smallGreek_41 : decode cX0_smallGreek 41 = .ok (.if_icmp .gt 8, 3) := by decide +kernel
theorem dX0_smallGreek_44 : decode cX0_smallGreek 44 = .ok (.iload_n 0, 1) := by decide +kernel
theorem dX0_smallGreek_45 : decode cX0_smallGreek 45 = .ok (.bipush 37, 2) := by decide +kernel
theorem dX0_smallGreek_47 : decode cX0_smallGreek 47 = .ok (.iadd, 1) := by decide +kernel
theorem dX0_smallGreek_48 : decode cX0_smallGreek 48 = .ok (.ireturn, 1) := by decide +kernel
theorem dX0_smallGreek_49 : decode cX0_smallGreek 49 = .ok (.iload_n 0, 1) := by decide +kernel
theorem dX0_smallGreek_50 : decode cX0_smallGreek 50 = .ok (.sipush 910, 3) := by decide +kernel
theorem dX0_smallGreek_53 : decode cX0_smallGreek 53 = .ok (.if_icmp .eq 10, 3) := by decide +kernel
theorem dX0_smallGreek_56 : decode cX0_smallGreek 56 = .ok (.iload_n 0, 1) := by decide +kernel
theorem dX0_smallGreek_57 : decode cX0_smallGreek 57 = .ok (.sipush 911, 3) := by decide +kernel
theorem dX0_smallGreek_60 : decode cX0_smallGreek 60 = .ok (.if_icmp .ne 8, 3) := by decide +kernel
theorem dX0_smallGreek_63 : decode cX0_smallGreek 63 = .ok (.iload_n 0, 1) := by decide +kernel
theorem dX0_smallGreek_64 : decode cX0_smallGreek 64 = .ok (.bipush 63, 2) := by decide +kernel
theorem dX0_smallGreek_66 : decode cX0_smallGreek 66 = .ok (.iadd, 1) := by decide +kernel
theorem dX0_smallGreek_67 : decode cX0_smallGreek 67 = .ok (.ireturn, 1) := by decide +kernel
theorem dX0_smallGreek_68 : decode cX0_smallGreek 68 = .ok (.iload_n 0, 1) := by decide +kernel
theorem dX0_smallGreek_69 : decode cX0_smallGreek 69 = .ok (.sipush 902, 3) := by decide +kernel
theorem dX0_smallGreek_72 : decode cX0_smallGreek 72 = .ok (.if_icmp .ne 9, 3) := by decide +kernel
theorem dX0_smallGreek_75 : decode cX0_smallGreek 75 = .ok (.sipush 940, 3) := by decide +kernel
theorem dX0_smallGreek_78 : decode cX0_smallGreek 78 = .ok (.goto 17, 3) := by decide +kernel
theorem dX0_smallGreek_81 : decode cX0_smallGreek 81 = .ok (.iload_n 0, 1) := by decide +kernel
theorem dX0_smallGreek_82 : decode cX0_smallGreek 82 = .ok (.sipush 908, 3) := by decide +kernel
theorem dX0_smallGreek_85 : decode cX0_smallGreek 85 = .ok (.if_icmp .ne 9, 3) := by decide +kernel
theorem dX0_smallGreek_88 : decode cX0_smallGreek 88 = .ok (.sipush 972, 3) := by decide +kernel
theorem dX0_smallGreek_91 : decode cX0_smallGreek 91 = .ok (.goto 4, 3) := by decide +kernel
theorem dX0_smallGreek_94 : decode cX0_smallGreek 94 = .ok (.iload_n 0, 1) := by decide +kernel
theorem dX0_smallGreek_95 : decode cX0_smallGreek 95 = .ok (.ireturn, 1) := by decide +kernel
theorem dX0_smallCyrillic_0 : decode cX0_smallCyrillic 0 = .ok (.iload_n 0, 1) := by decide +kernel
theorem dX0_smallCyrillic_1 : decode cX0_smallCyrillic 1 = .ok (.sipush 1039, 3) := by decide +kernel
theorem dX0_smallCyrillic_4 : decode cX0_smallCyrillic 4 = .ok (.if_icmp .gt 8, 3) := by decide +kernel
theorem dX0_smallCyrillic_7 : decode cX0_smallCyrillic 7 = .ok (.iload_n 0, 1) := by decide +kernel
theorem dX0_smallCyrillic_8 : decode cX0_smallCyrillic 8 = .ok (.bipush 80, 2) := by decide +kernel
theorem dX0_smallCyrillic_10 : decode cX0_smallCyrillic 10 = .ok (.iadd, 1) := by decide +kernel
theorem dX0_smallCyrillic_11 : decode cX0_smallCyrillic 11 = .ok (.ireturn, 1) := by decide +kernel
theorem dX0_smallCyrillic_12 : decode cX0_smallCyrillic 12 = .ok (.iload_n 0, 1) := by decide +kernel
theorem dX0_smallCyrillic_13 : decode cX0_smallCyrillic 13 = .ok (.sipush 1071, 3) := by decide +kernel
theorem dX0_smallCyrillic_16 : decode cX0_smallCyrillic 16 = .ok (.if_icmp .gt 8, 3) := by decide +kernel
theorem dX0_smallCyrillic_19 : decode cX0_smallCyrillic 19 = .ok (.iload_n 0, 1) := by decide +kernel
theorem dX0_smallCyrillic_20 : decode cX0_smallCyrillic 20 = .ok (.bipush 32, 2) := by decide +kernel
theorem dX0_smallCyrillic_22 : decode cX0_smallCyrillic 22 = .ok (.iadd, 1) := by decide +kernel
theorem dX0_smallCyrillic_23 : decode cX0_smallCyrillic 23 = .ok (.ireturn, 1) := by decide +kernel
theorem dX0_smallCyrillic_24 : decode cX0_smallCyrillic 24 = .ok (.iload_n 0, 1) := by decide +kernel
theorem dX0_smallCyrillic_25 : decode cX0_smallCyrillic 25 = .ok (.sipush 1120, 3) := by decide +kernel
theorem dX0_smallCyrillic_28 : decode cX0_smallCyrillic 28 = .ok (.if_icmp .lt 10, 3) := by decide +kernel
theorem dX0_smallCyrillic_31 : decode cX0_smallCyrillic 31 = .ok (.iload_n 0, 1) := by decide +kernel
theorem dX0_smallCyrillic_32 : decode cX0_smallCyrillic 32 = .ok (.sipush 1153, 3) := by decide +kernel
theorem dX0_smallCyrillic_35 : decode cX0_smallCyrillic 35 = .ok (.if_icmp .le 17, 3) := by decide +kernel
theorem dX0_smallCyrillic_38 : decode cX0_smallCyrillic 38 = .ok (.iload_n 0, 1) := by decide +kernel
theorem dX0_smallCyrillic_39 : decode cX0_smallCyrillic 39 = .ok (.sipush 1162, 3) := by decide +kernel
theorem dX0_smallCyrillic_42 : decode cX0_smallCyrillic 42 = .ok (.if_icmp .lt 14, 3) := by decide +kernel
theorem dX0_smallCyrillic_45 : decode cX0_smallCyrillic 45 = .ok (.iload_n 0, 1) := by decide +kernel
theorem dX0_smallCyrillic_46 : decode cX0_smallCyrillic 46 = .ok (.sipush 1215, 3) := by decide +kernel
theorem dX0_smallCyrillic_49 : decode cX0_smallCyrillic 49 = .ok (.if_icmp .gt 7, 3) := by decide +kernel
theorem dX0_smallCyrillic_52 : decode cX0_smallCyrillic 52 = .ok (.iconst 1, 1) := by decide +kernel
theorem dX0_smallCyrillic_53 : decode cX0_smallCyrillic 53 = .ok (.goto 4, 3) := by decide +kernel
theorem dX0_smallCyrillic_56 : decode cX0_smallCyrillic 56 = .ok (.iconst 0, 1) := by decide +kernel
theorem dX0_smallCyrillic_57 : decode cX0_smallCyrillic 57 = .ok (.istore_n 1, 1) := by decide +kernel
theorem dX0_smallCyrillic_58 : decode cX0_smallCyrillic 58 = .ok (.iload_n 1, 1) := by decide +kernel
theorem dX0_smallCyrillic_59 : decode cX0_smallCyrillic 59 = .ok (.ifCond .eq 15, 3) := by decide +kernel
theorem dX0_smallCyrillic_62 : decode cX0_smallCyrillic 62 = .ok (.iload_n 0, 1) := by decide +kernel
theorem dX0_smallCyrillic_63 : decode cX0_smallCyrillic 63 = .ok (.iconst 1, 1) := by decide +kernel
theorem dX0_smallCyrillic_64 : decode cX0_smallCyrillic 64 = .ok (.iand, 1) := by decide +kernel
theorem dX0_smallCyrillic_65 : decode cX0_smallCyrillic 65 = .ok (.ifCond .ne 9, 3) := by decide +kernel
theorem dX0_smallCyrillic_68 : decode cX0_smallCyrillic 68 = .ok (.iload_n 0, 1) := by decide +kernel
theorem dX0_smallCyrillic_69 : decode cX0_smallCyrillic 69 = .ok (.iconst 1, 1) := by decide +kernel
theorem dX0_smallCyrillic_70 : decode cX0_smallCyrillic 70 = .ok (.iadd, 1) := by decide +kernel
theorem dX0_smallCyrillic_71 : decode cX0_smallCyrillic 71 = .ok (.goto 4, 3) := by decide +kernel
theorem dX0_smallCyrillic_74 : decode cX0_smallCyrillic 74 = .ok (.iload_n 0, 1) := by decide +kernel
theorem dX0_smallCyrillic_75 : decode cX0_smallCyrillic 75 = .ok (.ireturn, 1) := by decide +kernel
theorem dX1_init_0 : decode cX1_init 0 = .ok (.aload_n 0, 1) := by decide +kernel
theorem dX1_init_1 : decode cX1_init 1 = .ok (.invokespecial 3, 3) := by decide +kernel
theorem dX1_init_4 : decode cX1_init 4 = .ok (.aload_n 0, 1) := by decide +kernel
theorem dX1_init_5 : decode cX1_init 5 = .ok (.sipush 1501, 3) := by decide +kernel
theorem dX1_init_8 : decode cX1_init 8 = .ok (.newarray .int, 2) := by decide +kernel
theorem dX1_init_10 : decode cX1_init 10 = .ok (.putfield 9, 3) := by decide +kernel
theorem dX1_init_13 : decode cX1_init 13 = .ok (.aload_n 0, 1) := by decide +kernel
theorem dX1_init_14 : decode cX1_init 14 = .ok (.sipush 1500, 3) := by decide +kernel
theorem dX1_init_17 : decode cX1_init 17 = .ok (.newarray .int, 2) := by decide +kernel
theorem dX1_init_19 : decode cX1_init 19 = .ok (.putfield 15, 3) := by decide +kernel
theorem dX1_init_22 : decode cX1_init 22 = .ok (.aload_n 0, 1) := by decide +kernel
theorem dX1_init_23 : decode cX1_init 23 = .ok (.aload_n 1, 1) := by decide +kernel
theorem dX1_init_24 : decode cX1_init 24 = .ok (.putfield 18, 3) := by decide +kernel
theorem dX1_init_27 : decode cX1_init 27 = .ok (.return_, 1) := by decide +kernel
set_option maxRecDepth 20000 in
theorem ggX1_look_X2_start : GoodIn wsX1_look wsX2_start := goodIn_r _ [9, 10, 11, 140, 141, 142, 143, 144, 145] (by decide +kernel) (by decide +kernel)
set_option maxRecDepth 20000 in
theorem gX1_look_X2_start : GoodIn wsX1_look (wsV RX1 26 RX2 yX2_start wsX2_start) := goodIn_app (goodIn_of _ (by decide +kernel)) ggX1_look_X2_start
set_option maxRecDepth 20000 in
theorem ggX1_look_X2_advance : GoodIn wsX1_look wsX2_advance := goodIn_r _ [15, 10, 16, 17, 18, 11, 19, 20, 21, 22, 23, 24, 25, 26, 27, 28, 29, 30, 31, 32, 33, 8, 34, 35, 36, 37, 38, 39, 40, 41, 42, 43, 44, 45, 46, 47, 48, 49, 50, 51, 52, 53, 54, 55, 56, 57, 58, 59, 60, 61, 62, 63, 64, 65, 66, 67, 68, 69, 70, 71, 72, 73, 74, 75, 76, 77, 78, 79, 80, 81, 82, 83, 84, 85, 86, 87, 88, 89, 90, 91, 92, 93, 94, 95, 96, 97, 98, 99, 100, 101, 102, 103, 104, 105, 106, 107, 108, 109, 110, 111, 112, 113, 114, 115, 140, 141, 142, 143, 144, 145, 146, 147] (by decide +kernel) (by decide +kernel)
set_option maxRecDepth 20000 in
theorem gX1_look_X2_advance : GoodIn wsX1_look (wsV RX1 31 RX2 yX2_advance wsX2_advance) := goodIn_app (goodIn_of _ (by decide +kernel)) ggX1_look_X2_advance
set_option maxRecDepth 20000 in
theorem ggX1_look_X2_begin : GoodIn wsX1_look wsX2_begin := goodIn_r _ [119, 17, 140, 141, 142, 143, 144, 145] (by decide +kernel) (by decide +kernel)
set_option maxRecDepth 20000 in
theorem gX1_look_X2_begin : GoodIn wsX1_look (wsV RX1 35 RX2 yX2_begin wsX2_begin) := goodIn_app (goodIn_of _ (by decide +kernel)) ggX1_look_X2_begin
set_option maxRecDepth 20000 in
theorem ggX1_look_X2_end : GoodIn wsX1_look wsX2_end := goodIn_r _ [123, 10, 140, 141, 142, 143, 144, 145] (by decide +kernel) (by decide +kernel)
set_option maxRecDepth 20000 in
theorem gX1_look_X2_end : GoodIn wsX1_look (wsV RX1 39 RX2 yX2_end wsX2_end) := goodIn_app (goodIn_of _ (by decide +kernel)) ggX1_look_X2_end
set_option maxRecDepth 20000 in
theorem ggX1_look_X2_depth : GoodIn wsX1_look wsX2_depth := goodIn_r _ [127, 18, 140, 141, 142, 143, 144, 145] (by decide +kernel) (by decide +kernel)
set_option maxRecDepth 20000 in
theorem gX1_look_X2_depth : GoodIn wsX1_look (wsV RX1 42 RX2 yX2_depth wsX2_depth) := goodIn_app (goodIn_of _ (by decide +kernel)) ggX1_look_X2_depth
set_option maxRecDepth 20000 in
theorem ggX1_look_X2_isSigned : GoodIn wsX1_look wsX2_isSigned := goodIn_r _ [131, 11, 140, 141, 142, 143, 144, 145] (by decide +kernel) (by decide +kernel)
set_option maxRecDepth 20000 in
theorem gX1_look_X2_isSigned : GoodIn wsX1_look (wsV RX1 45 RX2 yX2_isSigned wsX2_isSigned) := goodIn_app (goodIn_of _ (by decide +kernel)) ggX1_look_X2_isSigned
set_option maxRecDepth 20000 in
theorem ggX1_look_X2_isLed : GoodIn wsX1_look wsX2_isLed := goodIn_r _ [135, 19, 140, 141, 142, 143, 144, 145] (by decide +kernel) (by decide +kernel)
set_option maxRecDepth 20000 in
theorem gX1_look_X2_isLed : GoodIn wsX1_look (wsV RX1 48 RX2 yX2_isLed wsX2_isLed) := goodIn_app (goodIn_of _ (by decide +kernel)) ggX1_look_X2_isLed
theorem dX1_look_0 : decode cX1_look 0 = .ok (.aload_n 0, 1) := by decide +kernel
theorem dX1_look_1 : decode cX1_look 1 = .ok (.iconst 0, 1) := by decide +kernel
theorem dX1_look_2 : decode cX1_look 2 = .ok (.putfield 22, 3) := by decide +kernel
theorem dX1_look_5 : decode cX1_look 5 = .ok (.aload_n 0, 1) := by decide +kernel
theorem dX1_look_6 : decode cX1_look 6 = .ok (.getfield 18, 3) := by decide +kernel
theorem dX1_look_9 : decode cX1_look 9 = .ok (.invokevirtual 26, 3) := by decide +kernel
theorem dX1_look_12 : decode cX1_look 12 = .ok (.aload_n 0, 1) := by decide +kernel
theorem dX1_look_13 : decode cX1_look 13 = .ok (.getfield 22, 3) := by decide +kernel
theorem dX1_look_16 : decode cX1_look 16 = .ok (.aload_n 0, 1) := by decide +kernel
theorem dX1_look_17 : decode cX1_look 17 = .ok (.getfield 15, 3) := by decide +kernel
theorem dX1_look_20 : decode cX1_look 20 = .ok (.arraylength, 1) := by decide +kernel
theorem dX1_look_21 : decode cX1_look 21 = .ok (.if_icmp .ge 112, 3) := by decide +kernel
theorem dX1_look_24 : decode cX1_look 24 = .ok (.aload_n 0, 1) := by decide +kernel
theorem dX1_look_25 : decode cX1_look 25 = .ok (.getfield 18, 3) := by decide +kernel
theorem dX1_look_28 : decode cX1_look 28 = .ok (.invokevirtual 31, 3) := by decide +kernel
theorem dX1_look_31 : decode cX1_look 31 = .ok (.ifCond .eq 102, 3) := by decide +kernel
theorem dX1_look_34 : decode cX1_look 34 = .ok (.aload_n 0, 1) := by decide +kernel
theorem dX1_look_35 : decode cX1_look 35 = .ok (.getfield 9, 3) := by decide +kernel
theorem dX1_look_38 : decode cX1_look 38 = .ok (.aload_n 0, 1) := by decide +kernel
theorem dX1_look_39 : decode cX1_look 39 = .ok (.getfield 22, 3) := by decide +kernel
theorem dX1_look_42 : decode cX1_look 42 = .ok (.aload_n 0, 1) := by decide +kernel
theorem dX1_look_43 : decode cX1_look 43 = .ok (.getfield 18, 3) := by decide +kernel
theorem dX1_look_46 : decode cX1_look 46 = .ok (.invokevirtual 35, 3) := by decide +kernel
theorem dX1_look_49 : decode cX1_look 49 = .ok (.iastore, 1) := by decide +kernel
theorem dX1_look_50 : decode cX1_look 50 = .ok (.aload_n 0, 1) := by decide +kernel
theorem dX1_look_51 : decode cX1_look 51 = .ok (.getfield 9, 3) := by decide +kernel
theorem dX1_look_54 : decode cX1_look 54 = .ok (.aload_n 0, 1) := by decide +kernel
theorem dX1_look_55 : decode cX1_look 55 = .ok (.getfield 22, 3) := by decide +kernel
theorem dX1_look_58 : decode cX1_look 58 = .ok (.iconst 1, 1) := by decide +kernel
theorem dX1_look_59 : decode cX1_look 59 = .ok (.iadd, 1) := by decide +kernel
theorem dX1_look_60 : decode cX1_look 60 = .ok (.aload_n 0, 1) := by decide +kernel
theorem dX1_look_61 : decode cX1_look 61 = .ok (.getfield 18, 3) := by decide +kernel
theorem dX1_look_64 : decode cX1_look 64 = .ok (.invokevirtual 39, 3) := by decide +kernel
theorem dX1_look_67 : decode cX1_look 67 = .ok (.iconst 1, 1) := by decide +kernel
theorem dX1_look_68 : decode cX1_look 68 = .ok (.iadd, 1) := by decide +kernel
theorem dX1_look_69 : decode cX1_look 69 = .ok (.iastore, 1) := by decide +kernel
theorem dX1_look_70 : decode cX1_look 70 = .ok (.aload_n 0, 1) := by decide +kernel
theorem dX1_look_71 : decode cX1_look 71 = .ok (.getfield 15, 3) := by decide +kernel
theorem dX1_look_74 : decode cX1_look 74 = .ok (.aload_n 0, 1) := by decide +kernel
theorem dX1_look_75 : decode cX1_look 75 = .ok (.getfield 22, 3) := by decide +kernel
theorem dX1_look_78 : decode cX1_look 78 = .ok (.aload_n 0, 1) := by decide +kernel
theorem dX1_look_79 : decode cX1_look 79 = .ok (.getfield 18, 3) := by decide +kernel
theorem dX1_look_82 : decode cX1_look 82 = .ok (.invokevirtual 42, 3) := by decide +kernel
theorem dX1_look_85 : decode cX1_look 85 = .ok (.iconst 4, 1) := by decide +kernel
theorem dX1_look_86 : decode cX1_look 86 = .ok (.imul, 1) := by decide +kernel
theorem dX1_look_87 : decode cX1_look 87 = .ok (.aload_n 0, 1) := by decide +kernel
theorem dX1_look_88 : decode cX1_look 88 = .ok (.getfield 18, 3) := by decide +kernel
theorem dX1_look_91 : decode cX1_look 91 = .ok (.invokevirtual 45, 3) := by decide +kernel
theorem dX1_look_94 : decode cX1_look 94 = .ok (.ifCond .eq 7, 3) := by decide +kernel
theorem dX1_look_97 : decode cX1_look 97 = .ok (.iconst 2, 1) := by decide +kernel
theorem dX1_look_98 : decode cX1_look 98 = .ok (.goto 4, 3) := by decide +kernel
theorem dX1_look_101 : decode cX1_look 101 = .ok (.iconst 0, 1) := by decide +kernel
theorem dX1_look_102 : decode cX1_look 102 = .ok (.iadd, 1) := by decide +kernel
theorem dX1_look_103 : decode cX1_look 103 = .ok (.aload_n 0, 1) := by decide +kernel
theorem dX1_look_104 : decode cX1_look 104 = .ok (.getfield 18, 3) := by decide +kernel
theorem dX1_look_107 : decode cX1_look 107 = .ok (.invokevirtual 48, 3) := by decide +kernel
theorem dX1_look_110 : decode cX1_look 110 = .ok (.ifCond .eq 7, 3) := by decide +kernel
theorem dX1_look_113 : decode cX1_look 113 = .ok (.iconst 1, 1) := by decide +kernel
theorem dX1_look_114 : decode cX1_look 114 = .ok (.goto 4, 3) := by decide +kernel
theorem dX1_look_117 : decode cX1_look 117 = .ok (.iconst 0, 1) := by decide +kernel
theorem dX1_look_118 : decode cX1_look 118 = .ok (.iadd, 1) := by decide +kernel
theorem dX1_look_119 : decode cX1_look 119 = .ok (.iastore, 1) := by decide +kernel
theorem dX1_look_120 : decode cX1_look 120 = .ok (.aload_n 0, 1) := by decide +kernel
theorem dX1_look_121 : decode cX1_look 121 = .ok (.dup, 1) := by decide +kernel
theorem dX1_look_122 : decode cX1_look 122 = .ok (.getfield 22, 3) := by decide +kernel
theorem dX1_look_125 : decode cX1_look 125 = .ok (.iconst 1, 1) := by decide +kernel
theorem dX1_look_126 : decode cX1_look 126 = .ok (.iadd, 1) := by decide +kernel
theorem dX1_look_127 : decode cX1_look 127 = .ok (.putfield 22, 3) := by decide +kernel
theorem dX1_look_130 : decode cX1_look 130 = .ok (.goto (-118), 3) := by decide +kernel
theorem dX1_look_133 : decode cX1_look 133 = .ok (.aload_n 0, 1) := by decide +kernel
theorem dX1_look_134 : decode cX1_look 134 = .ok (.getfield 22, 3) := by decide +kernel
theorem dX1_look_137 : decode cX1_look 137 = .ok (.ireturn, 1) := by decide +kernel
theorem dX1_tell_0 : decode cX1_tell 0 = .ok (.iload_n 1, 1) := by decide +kernel
theorem dX1_tell_1 : decode cX1_tell 1 = .ok (.ifCond .lt 11, 3) := by decide +kernel
theorem dX1_tell_4 : decode cX1_tell 4 = .ok (.iload_n 1, 1) := by decide +kernel
theorem dX1_tell_5 : decode cX1_tell 5 = .ok (.aload_n 0, 1) := by decide +kernel
theorem dX1_tell_6 : decode cX1_tell 6 = .ok (.getfield 22, 3) := by decide +kernel
theorem dX1_tell_9 : decode cX1_tell 9 = .ok (.if_icmp .lt 5, 3) := by decide +kernel
theorem dX1_tell_12 : decode cX1_tell 12 = .ok (.iconst (-1), 1) := by decide +kernel
theorem dX1_tell_13 : decode cX1_tell 13 = .ok (.ireturn, 1) := by decide +kernel
theorem dX1_tell_14 : decode cX1_tell 14 = .ok (.iload_n 2, 1) := by decide +kernel
theorem dX1_tell_15 : decode cX1_tell 15 = .ok (.tableswitch 87 0 4 #[33, 42, 53, 62, 69], 33) := by decide +kernel
theorem dX1_tell_48 : decode cX1_tell 48 = .ok (.aload_n 0, 1) := by decide +kernel
theorem dX1_tell_49 : decode cX1_tell 49 = .ok (.getfield 15, 3) := by decide +kernel
theorem dX1_tell_52 : decode cX1_tell 52 = .ok (.iload_n 1, 1) := by decide +kernel
theorem dX1_tell_53 : decode cX1_tell 53 = .ok (.iaload, 1) := by decide +kernel
theorem dX1_tell_54 : decode cX1_tell 54 = .ok (.iconst 2, 1) := by decide +kernel
theorem dX1_tell_55 : decode cX1_tell 55 = .ok (.ishr, 1) := by decide +kernel
theorem dX1_tell_56 : decode cX1_tell 56 = .ok (.ireturn, 1) := by decide +kernel
theorem dX1_tell_57 : decode cX1_tell 57 = .ok (.aload_n 0, 1) := by decide +kernel
theorem dX1_tell_58 : decode cX1_tell 58 = .ok (.getfield 15, 3) := by decide +kernel
theorem dX1_tell_61 : decode cX1_tell 61 = .ok (.iload_n 1, 1) := by decide +kernel
theorem dX1_tell_62 : decode cX1_tell 62 = .ok (.iaload, 1) := by decide +kernel
theorem dX1_tell_63 : decode cX1_tell 63 = .ok (.iconst 1, 1) := by decide +kernel
theorem dX1_tell_64 : decode cX1_tell 64 = .ok (.ishr, 1) := by decide +kernel
theorem dX1_tell_65 : decode cX1_tell 65 = .ok (.iconst 1, 1) := by decide +kernel
theorem dX1_tell_66 : decode cX1_tell 66 = .ok (.iand, 1) := by decide +kernel
theorem dX1_tell_67 : decode cX1_tell 67 = .ok (.ireturn, 1) := by decide +kernel
theorem dX1_tell_68 : decode cX1_tell 68 = .ok (.aload_n 0, 1) := by decide +kernel
theorem dX1_tell_69 : decode cX1_tell 69 = .ok (.getfield 15, 3) := by decide +kernel
theorem dX1_tell_72 : decode cX1_tell 72 = .ok (.iload_n 1, 1) := by decide +kernel
theorem dX1_tell_73 : decode cX1_tell 73 = .ok (.iaload, 1) := by decide +kernel
theorem dX1_tell_74 : decode cX1_tell 74 = .ok (.iconst 1, 1) := by decide +kernel
theorem dX1_tell_75 : decode cX1_tell 75 = .ok (.iand, 1) := by decide +kernel
theorem dX1_tell_76 : decode cX1_tell 76 = .ok (.ireturn, 1) := by decide +kernel
theorem dX1_tell_77 : decode cX1_tell 77 = .ok (.aload_n 0, 1) := by decide +kernel
theorem dX1_tell_78 : decode cX1_tell 78 = .ok (.getfield 9, 3) := by decide +kernel
theorem dX1_tell_81 : decode cX1_tell 81 = .ok (.iload_n 1, 1) := by decide +kernel
theorem dX1_tell_82 : decode cX1_tell 82 = .ok (.iaload, 1) := by decide +kernel
theorem dX1_tell_83 : decode cX1_tell 83 = .ok (.ireturn, 1) := by decide +kernel
theorem dX1_tell_84 : decode cX1_tell 84 = .ok (.aload_n 0, 1) := by decide +kernel
theorem dX1_tell_85 : decode cX1_tell 85 = .ok (.getfield 9, 3) := by decide +kernel
theorem dX1_tell_88 : decode cX1_tell 88 = .ok (.iload_n 1, 1) := by decide +kernel
theorem dX1_tell_89 : decode cX1_tell 89 = .ok (.iconst 1, 1) := by decide +kernel
theorem dX1_tell_90 : decode cX1_tell 90 = .ok (.iadd, 1) := by decide +kernel
theorem dX1_tell_91 : decode cX1_tell 91 = .ok (.iaload, 1) := by decide +kernel
theorem dX1_tell_92 : decode cX1_tell 92 = .ok (.iconst 1, 1) := by decide +kernel
theorem dX1_tell_93 : decode cX1_tell 93 = .ok (.isub, 1) := by decide +kernel
theorem dX1_tell_94 : decode cX1_tell 94 = .ok (.aload_n 0, 1) := by decide +kernel
theorem dX1_tell_95 : decode cX1_tell 95 = .ok (.getfield 9, 3) := by decide +kernel
theorem dX1_tell_98 : decode cX1_tell 98 = .ok (.iload_n 1, 1) := by decide +kernel
theorem dX1_tell_99 : decode cX1_tell 99 = .ok (.iaload, 1) := by decide +kernel
theorem dX1_tell_100 : decode cX1_tell 100 = .ok (.isub, 1) := by decide +kernel
theorem dX1_tell_101 : decode cX1_tell 101 = .ok (.ireturn, 1) := by decide +kernel
theorem dX1_tell_102 : decode cX1_tell 102 = .ok (.iconst (-1), 1) := by decide +kernel
theorem dX1_tell_103 : decode cX1_tell 103 = .ok (.ireturn, 1) := by decide +kernel
theorem dX2_init_0 : decode cX2_init 0 = .ok (.aload_n 0, 1) := by decide +kernel
theorem dX2_init_1 : decode cX2_init 1 = .ok (.invokespecial 3, 3) := by decide +kernel
theorem dX2_init_4 : decode cX2_init 4 = .ok (.aload_n 0, 1) := by decide +kernel
theorem dX2_init_5 : decode cX2_init 5 = .ok (.aload_n 1, 1) := by decide +kernel
theorem dX2_init_6 : decode cX2_init 6 = .ok (.putfield 9, 3) := by decide +kernel
theorem dX2_init_9 : decode cX2_init 9 = .ok (.return_, 1) := by decide +kernel
theorem dX2_start_0 : decode cX2_start 0 = .ok (.aload_n 0, 1) := by decide +kernel
theorem dX2_start_1 : decode cX2_start 1 = .ok (.iconst (-1), 1) := by decide +kernel
theorem dX2_start_2 : decode cX2_start 2 = .ok (.putfield 15, 3) := by decide +kernel
theorem dX2_start_5 : decode cX2_start 5 = .ok (.aload_n 0, 1) := by decide +kernel
theorem dX2_start_6 : decode cX2_start 6 = .ok (.iconst 0, 1) := by decide +kernel
theorem dX2_start_7 : decode cX2_start 7 = .ok (.putfield 19, 3) := by decide +kernel
theorem dX2_start_10 : decode cX2_start 10 = .ok (.return_, 1) := by decide +kernel
set_option maxRecDepth 20000 in
theorem ggX2_advance_X5_size : GoodIn wsX2_advance wsX5_size := goodIn_r _ [11, 12, 110, 111] (by decide +kernel) (by decide +kernel)
set_option maxRecDepth 20000 in
theorem gX2_advance_X5_size : GoodIn wsX2_advance (wsV RX2 23 RX5 yX5_size wsX5_size) := goodIn_app (goodIn_of _ (by decide +kernel)) ggX2_advance_X5_size
set_option maxRecDepth 20000 in
theorem ggX2_advance_X5_get : GoodIn wsX2_advance wsX5_get := goodIn_r _ [16, 12, 17, 110, 111] (by decide +kernel) (by decide +kernel)
set_option maxRecDepth 20000 in
theorem gX2_advance_X5_get : GoodIn wsX2_advance (wsV RX2 32 RX5 yX5_get wsX5_get) := goodIn_app (goodIn_of _ (by decide +kernel)) ggX2_advance_X5_get
set_option maxRecDepth 20000 in
theorem ggX2_advance_X2_depthFrom : GoodIn wsX2_advance wsX2_depthFrom := goodIn_r _ [22, 2, 7, 8, 9, 10, 11, 12, 13, 14, 15, 16, 17, 104, 105, 106, 107, 108, 109, 110, 111] (by decide +kernel) (by decide +kernel)
set_option maxRecDepth 20000 in
theorem gX2_advance_X2_depthFrom : GoodIn wsX2_advance (wsV RX2 36 RX2 yX2_depthFrom wsX2_depthFrom) := goodIn_app (goodIn_of _ (by decide +kernel)) ggX2_advance_X2_depthFrom
set_option maxRecDepth 20000 in
theorem ggX2_advance_X2_beginsSigned : GoodIn wsX2_advance wsX2_beginsSigned := goodIn_r _ [26, 1, 3, 2, 27, 28, 29, 10, 30, 31, 32, 33, 34, 35, 36, 37, 38, 39, 40, 41, 42, 43, 14, 15, 16, 12, 17, 44, 45, 46, 47, 48, 49, 50, 51, 52, 53, 54, 55, 56, 57, 58, 59, 60, 61, 62, 63, 64, 65, 66, 67, 68, 69, 70, 71, 72, 73, 74, 75, 76, 77, 78, 79, 80, 104, 105, 106, 107, 108, 109, 110, 111] (by decide +kernel) (by decide +kernel)
set_option maxRecDepth 20000 in
theorem gX2_advance_X2_beginsSigned : GoodIn wsX2_advance (wsV RX2 42 RX2 yX2_beginsSigned wsX2_beginsSigned) := goodIn_app (goodIn_of _ (by decide +kernel)) ggX2_advance_X2_beginsSigned
set_option maxRecDepth 20000 in
theorem ggX2_advance_X2_leads : GoodIn wsX2_advance wsX2_leads := goodIn_r _ [84, 1, 3, 2, 13, 14, 15, 10, 16, 12, 17, 85, 86, 87, 21, 88, 89, 90, 91, 92, 93, 32, 33, 34, 35, 36, 37, 38, 39, 40, 41, 42, 27, 28, 29, 30, 31, 43, 44, 45, 46, 47, 48, 49, 50, 51, 52, 53, 54, 55, 56, 57, 58, 59, 60, 61, 62, 63, 64, 65, 66, 67, 68, 69, 70, 71, 72, 73, 74, 75, 76, 77, 78, 79, 80, 94, 95, 96, 97, 98, 99, 100, 101, 102, 103, 104, 105, 106, 107, 108, 109, 110, 111] (by decide +kernel) (by decide +kernel)
set_option maxRecDepth 20000 in
theorem gX2_advance_X2_leads : GoodIn wsX2_advance (wsV RX2 46 RX2 yX2_leads wsX2_leads) := goodIn_app (goodIn_of _ (by decide +kernel)) ggX2_advance_X2_leads
theorem dX2_advance_0 : decode cX2_advance 0 = .ok (.aload_n 0, 1) := by decide +kernel
theorem dX2_advance_1 : decode cX2_advance 1 = .ok (.getfield 15, 3) := by decide +kernel
theorem dX2_advance_4 : decode cX2_advance 4 = .ok (.iconst 1, 1) := by decide +kernel
theorem dX2_advance_5 : decode cX2_advance 5 = .ok (.iadd, 1) := by decide +kernel
theorem dX2_advance_6 : decode cX2_advance 6 = .ok (.aload_n 0, 1) := by decide +kernel
theorem dX2_advance_7 : decode cX2_advance 7 = .ok (.getfield 9, 3) := by decide +kernel
theorem dX2_advance_10 : decode cX2_advance 10 = .ok (.invokevirtual 23, 3) := by decide +kernel
theorem dX2_advance_13 : decode cX2_advance 13 = .ok (.if_icmp .lt 5, 3) := by decide +kernel
theorem dX2_advance_16 : decode cX2_advance 16 = .ok (.iconst 0, 1) := by decide +kernel
theorem dX2_advance_17 : decode cX2_advance 17 = .ok (.ireturn, 1) := by decide +kernel
theorem dX2_advance_18 : decode cX2_advance 18 = .ok (.aload_n 0, 1) := by decide +kernel
theorem dX2_advance_19 : decode cX2_advance 19 = .ok (.aload_n 0, 1) := by decide +kernel
theorem dX2_advance_20 : decode cX2_advance 20 = .ok (.getfield 15, 3) := by decide +kernel
theorem dX2_advance_23 : decode cX2_advance 23 = .ok (.iconst 1, 1) := by decide +kernel
theorem dX2_advance_24 : decode cX2_advance 24 = .ok (.iadd, 1) := by decide +kernel
theorem dX2_advance_25 : decode cX2_advance 25 = .ok (.putfield 29, 3) := by decide +kernel
theorem dX2_advance_28 : decode cX2_advance 28 = .ok (.aload_n 0, 1) := by decide +kernel
theorem dX2_advance_29 : decode cX2_advance 29 = .ok (.aload_n 0, 1) := by decide +kernel
theorem dX2_advance_30 : decode cX2_advance 30 = .ok (.getfield 29, 3) := by decide +kernel
theorem dX2_advance_33 : decode cX2_advance 33 = .ok (.putfield 15, 3) := by decide +kernel
theorem dX2_advance_36 : decode cX2_advance 36 = .ok (.aload_n 0, 1) := by decide +kernel
theorem dX2_advance_37 : decode cX2_advance 37 = .ok (.getfield 15, 3) := by decide +kernel
theorem dX2_advance_40 : decode cX2_advance 40 = .ok (.aload_n 0, 1) := by decide +kernel
theorem dX2_advance_41 : decode cX2_advance 41 = .ok (.getfield 9, 3) := by decide +kernel
theorem dX2_advance_44 : decode cX2_advance 44 = .ok (.invokevirtual 23, 3) := by decide +kernel
theorem dX2_advance_47 : decode cX2_advance 47 = .ok (.if_icmp .ge 32, 3) := by decide +kernel
theorem dX2_advance_50 : decode cX2_advance 50 = .ok (.aload_n 0, 1) := by decide +kernel
theorem dX2_advance_51 : decode cX2_advance 51 = .ok (.getfield 9, 3) := by decide +kernel
theorem dX2_advance_54 : decode cX2_advance 54 = .ok (.aload_n 0, 1) := by decide +kernel
theorem dX2_advance_55 : decode cX2_advance 55 = .ok (.getfield 15, 3) := by decide +kernel
theorem dX2_advance_58 : decode cX2_advance 58 = .ok (.invokevirtual 32, 3) := by decide +kernel
theorem dX2_advance_61 : decode cX2_advance 61 = .ok (.bipush 10, 2) := by decide +kernel
theorem dX2_advance_63 : decode cX2_advance 63 = .ok (.if_icmp .eq 16, 3) := by decide +kernel
theorem dX2_advance_66 : decode cX2_advance 66 = .ok (.aload_n 0, 1) := by decide +kernel
theorem dX2_advance_67 : decode cX2_advance 67 = .ok (.dup, 1) := by decide +kernel
theorem dX2_advance_68 : decode cX2_advance 68 = .ok (.getfield 15, 3) := by decide +kernel
theorem dX2_advance_71 : decode cX2_advance 71 = .ok (.iconst 1, 1) := by decide +kernel
theorem dX2_advance_72 : decode cX2_advance 72 = .ok (.iadd, 1) := by decide +kernel
theorem dX2_advance_73 : decode cX2_advance 73 = .ok (.putfield 15, 3) := by decide +kernel
theorem dX2_advance_76 : decode cX2_advance 76 = .ok (.goto (-40), 3) := by decide +kernel
theorem dX2_advance_79 : decode cX2_advance 79 = .ok (.aload_n 0, 1) := by decide +kernel
theorem dX2_advance_80 : decode cX2_advance 80 = .ok (.aload_n 0, 1) := by decide +kernel
theorem dX2_advance_81 : decode cX2_advance 81 = .ok (.aload_n 0, 1) := by decide +kernel
theorem dX2_advance_82 : decode cX2_advance 82 = .ok (.getfield 29, 3) := by decide +kernel
theorem dX2_advance_85 : decode cX2_advance 85 = .ok (.invokevirtual 36, 3) := by decide +kernel
theorem dX2_advance_88 : decode cX2_advance 88 = .ok (.putfield 39, 3) := by decide +kernel
theorem dX2_advance_91 : decode cX2_advance 91 = .ok (.aload_n 0, 1) := by decide +kernel
theorem dX2_advance_92 : decode cX2_advance 92 = .ok (.aload_n 0, 1) := by decide +kernel
theorem dX2_advance_93 : decode cX2_advance 93 = .ok (.getfield 39, 3) := by decide +kernel
theorem dX2_advance_96 : decode cX2_advance 96 = .ok (.ifCond .ne 21, 3) := by decide +kernel
theorem dX2_advance_99 : decode cX2_advance 99 = .ok (.aload_n 0, 1) := by decide +kernel
theorem dX2_advance_100 : decode cX2_advance 100 = .ok (.getfield 19, 3) := by decide +kernel
theorem dX2_advance_103 : decode cX2_advance 103 = .ok (.ifCond .ne 10, 3) := by decide +kernel
theorem dX2_advance_106 : decode cX2_advance 106 = .ok (.aload_n 0, 1) := by decide +kernel
theorem dX2_advance_107 : decode cX2_advance 107 = .ok (.invokevirtual 42, 3) := by decide +kernel
theorem dX2_advance_110 : decode cX2_advance 110 = .ok (.ifCond .eq 7, 3) := by decide +kernel
theorem dX2_advance_113 : decode cX2_advance 113 = .ok (.iconst 1, 1) := by decide +kernel
theorem dX2_advance_114 : decode cX2_advance 114 = .ok (.goto 4, 3) := by decide +kernel
theorem dX2_advance_117 : decode cX2_advance 117 = .ok (.iconst 0, 1) := by decide +kernel
theorem dX2_advance_118 : decode cX2_advance 118 = .ok (.putfield 19, 3) := by decide +kernel
theorem dX2_advance_121 : decode cX2_advance 121 = .ok (.aload_n 0, 1) := by decide +kernel
theorem dX2_advance_122 : decode cX2_advance 122 = .ok (.aload_n 0, 1) := by decide +kernel
theorem dX2_advance_123 : decode cX2_advance 123 = .ok (.invokevirtual 46, 3) := by decide +kernel
theorem dX2_advance_126 : decode cX2_advance 126 = .ok (.ifCond .eq 20, 3) := by decide +kernel
theorem dX2_advance_129 : decode cX2_advance 129 = .ok (.aload_n 0, 1) := by decide +kernel
theorem dX2_advance_130 : decode cX2_advance 130 = .ok (.aload_n 0, 1) := by decide +kernel
theorem dX2_advance_131 : decode cX2_advance 131 = .ok (.getfield 15, 3) := by decide +kernel
theorem dX2_advance_134 : decode cX2_advance 134 = .ok (.iconst 1, 1) := by decide +kernel
theorem dX2_advance_135 : decode cX2_advance 135 = .ok (.iadd, 1) := by decide +kernel
theorem dX2_advance_136 : decode cX2_advance 136 = .ok (.invokevirtual 36, 3) := by decide +kernel
theorem dX2_advance_139 : decode cX2_advance 139 = .ok (.ifCond .le 7, 3) := by decide +kernel
theorem dX2_advance_142 : decode cX2_advance 142 = .ok (.iconst 1, 1) := by decide +kernel
theorem dX2_advance_143 : decode cX2_advance 143 = .ok (.goto 4, 3) := by decide +kernel
theorem dX2_advance_146 : decode cX2_advance 146 = .ok (.iconst 0, 1) := by decide +kernel
theorem dX2_advance_147 : decode cX2_advance 147 = .ok (.putfield 49, 3) := by decide +kernel
theorem dX2_advance_150 : decode cX2_advance 150 = .ok (.iconst 1, 1) := by decide +kernel
theorem dX2_advance_151 : decode cX2_advance 151 = .ok (.ireturn, 1) := by decide +kernel
theorem dX2_begin_0 : decode cX2_begin 0 = .ok (.aload_n 0, 1) := by decide +kernel
theorem dX2_begin_1 : decode cX2_begin 1 = .ok (.getfield 29, 3) := by decide +kernel
theorem dX2_begin_4 : decode cX2_begin 4 = .ok (.ireturn, 1) := by decide +kernel
theorem dX2_end_0 : decode cX2_end 0 = .ok (.aload_n 0, 1) := by decide +kernel
theorem dX2_end_1 : decode cX2_end 1 = .ok (.getfield 15, 3) := by decide +kernel
theorem dX2_end_4 : decode cX2_end 4 = .ok (.ireturn, 1) := by decide +kernel
theorem dX2_depth_0 : decode cX2_depth 0 = .ok (.aload_n 0, 1) := by decide +kernel
theorem dX2_depth_1 : decode cX2_depth 1 = .ok (.getfield 39, 3) := by decide +kernel
theorem dX2_depth_4 : decode cX2_depth 4 = .ok (.ireturn, 1) := by decide +kernel
theorem dX2_isSigned_0 : decode cX2_isSigned 0 = .ok (.aload_n 0, 1) := by decide +kernel
theorem dX2_isSigned_1 : decode cX2_isSigned 1 = .ok (.getfield 19, 3) := by decide +kernel
theorem dX2_isSigned_4 : decode cX2_isSigned 4 = .ok (.ireturn, 1) := by decide +kernel
theorem dX2_isLed_0 : decode cX2_isLed 0 = .ok (.aload_n 0, 1) := by decide +kernel
theorem dX2_isLed_1 : decode cX2_isLed 1 = .ok (.getfield 49, 3) := by decide +kernel
theorem dX2_isLed_4 : decode cX2_isLed 4 = .ok (.ireturn, 1) := by decide +kernel
theorem dX2_isPlain_0 : decode cX2_isPlain 0 = .ok (.aload_n 0, 1) := by decide +kernel
theorem dX2_isPlain_1 : decode cX2_isPlain 1 = .ok (.getfield 39, 3) := by decide +kernel
theorem dX2_isPlain_4 : decode cX2_isPlain 4 = .ok (.ifCond .ne 21, 3) := by decide +kernel
theorem dX2_isPlain_7 : decode cX2_isPlain 7 = .ok (.aload_n 0, 1) := by decide +kernel
theorem dX2_isPlain_8 : decode cX2_isPlain 8 = .ok (.getfield 19, 3) := by decide +kernel
theorem dX2_isPlain_11 : decode cX2_isPlain 11 = .ok (.ifCond .ne 14, 3) := by decide +kernel
theorem dX2_isPlain_14 : decode cX2_isPlain 14 = .ok (.aload_n 0, 1) := by decide +kernel
theorem dX2_isPlain_15 : decode cX2_isPlain 15 = .ok (.getfield 49, 3) := by decide +kernel
theorem dX2_isPlain_18 : decode cX2_isPlain 18 = .ok (.ifCond .ne 7, 3) := by decide +kernel
theorem dX2_isPlain_21 : decode cX2_isPlain 21 = .ok (.iconst 1, 1) := by decide +kernel
theorem dX2_isPlain_22 : decode cX2_isPlain 22 = .ok (.goto 4, 3) := by decide +kernel
theorem dX2_isPlain_25 : decode cX2_isPlain 25 = .ok (.iconst 0, 1) := by decide +kernel
theorem dX2_isPlain_26 : decode cX2_isPlain 26 = .ok (.ireturn, 1) := by decide +kernel
set_option maxRecDepth 20000 in
theorem ggX2_depthFrom_X5_size : GoodIn wsX2_depthFrom wsX5_size := goodIn_r _ [6, 7, 19, 20] (by decide +kernel) (by decide +kernel)
set_option maxRecDepth 20000 in
theorem gX2_depthFrom_X5_size : GoodIn wsX2_depthFrom (wsV RX2 23 RX5 yX5_size wsX5_size) := goodIn_app (goodIn_of _ (by decide +kernel)) ggX2_depthFrom_X5_size
set_option maxRecDepth 20000 in
theorem ggX2_depthFrom_X5_get : GoodIn wsX2_depthFrom wsX5_get := goodIn_r _ [11, 7, 12, 19, 20] (by decide +kernel) (by decide +kernel)
set_option maxRecDepth 20000 in
theorem gX2_depthFrom_X5_get : GoodIn wsX2_depthFrom (wsV RX2 32 RX5 yX5_get wsX5_get) := goodIn_app (goodIn_of _ (by decide +kernel)) ggX2_depthFrom_X5_get
theorem dX2_depthFrom_0 : decode cX2_depthFrom 0 = .ok (.iconst 0, 1) := by decide +kernel
theorem dX2_depthFrom_1 : decode cX2_depthFrom 1 = .ok (.istore_n 2, 1) := by decide +kernel
theorem dX2_depthFrom_2 : decode cX2_depthFrom 2 = .ok (.iload_n 1, 1) := by decide +kernel
theorem dX2_depthFrom_3 : decode cX2_depthFrom 3 = .ok (.istore_n 3, 1) := by decide +kernel
theorem dX2_depthFrom_4 : decode cX2_depthFrom 4 = .ok (.iload_n 3, 1) := by decide +kernel
theorem dX2_depthFrom_5 : decode cX2_depthFrom 5 = .ok (.aload_n 0, 1) := by decide +kernel
theorem dX2_depthFrom_6 : decode cX2_depthFrom 6 = .ok (.getfield 9, 3) := by decide +kernel
theorem dX2_depthFrom_9 : decode cX2_depthFrom 9 = .ok (.invokevirtual 23, 3) := by decide +kernel
theorem dX2_depthFrom_12 : decode cX2_depthFrom 12 = .ok (.if_icmp .ge 44, 3) := by decide +kernel
theorem dX2_depthFrom_15 : decode cX2_depthFrom 15 = .ok (.aload_n 0, 1) := by decide +kernel
theorem dX2_depthFrom_16 : decode cX2_depthFrom 16 = .ok (.getfield 9, 3) := by decide +kernel
theorem dX2_depthFrom_19 : decode cX2_depthFrom 19 = .ok (.iload_n 3, 1) := by decide +kernel
theorem dX2_depthFrom_20 : decode cX2_depthFrom 20 = .ok (.invokevirtual 32, 3) := by decide +kernel
theorem dX2_depthFrom_23 : decode cX2_depthFrom 23 = .ok (.bipush 62, 2) := by decide +kernel
theorem dX2_depthFrom_25 : decode cX2_depthFrom 25 = .ok (.if_icmp .ne 9, 3) := by decide +kernel
theorem dX2_depthFrom_28 : decode cX2_depthFrom 28 = .ok (.iinc 2 1, 3) := by decide +kernel
theorem dX2_depthFrom_31 : decode cX2_depthFrom 31 = .ok (.goto 19, 3) := by decide +kernel
theorem dX2_depthFrom_34 : decode cX2_depthFrom 34 = .ok (.aload_n 0, 1) := by decide +kernel
theorem dX2_depthFrom_35 : decode cX2_depthFrom 35 = .ok (.getfield 9, 3) := by decide +kernel
theorem dX2_depthFrom_38 : decode cX2_depthFrom 38 = .ok (.iload_n 3, 1) := by decide +kernel
theorem dX2_depthFrom_39 : decode cX2_depthFrom 39 = .ok (.invokevirtual 32, 3) := by decide +kernel
theorem dX2_depthFrom_42 : decode cX2_depthFrom 42 = .ok (.bipush 32, 2) := by decide +kernel
theorem dX2_depthFrom_44 : decode cX2_depthFrom 44 = .ok (.if_icmp .eq 6, 3) := by decide +kernel
theorem dX2_depthFrom_47 : decode cX2_depthFrom 47 = .ok (.goto 9, 3) := by decide +kernel
theorem dX2_depthFrom_50 : decode cX2_depthFrom 50 = .ok (.iinc 3 1, 3) := by decide +kernel
theorem dX2_depthFrom_53 : decode cX2_depthFrom 53 = .ok (.goto (-49), 3) := by decide +kernel
theorem dX2_depthFrom_56 : decode cX2_depthFrom 56 = .ok (.iload_n 2, 1) := by decide +kernel
theorem dX2_depthFrom_57 : decode cX2_depthFrom 57 = .ok (.ireturn, 1) := by decide +kernel
set_option maxRecDepth 20000 in
theorem ggX2_beginsSigned_X5_holds : GoodIn wsX2_beginsSigned wsX5_holds := goodIn_r _ [8, 9, 10, 11, 12, 13, 14, 15, 16, 17, 18, 19, 20, 21, 22, 23, 7, 24, 25, 26, 27, 28, 29, 30, 31, 32, 33, 34, 35, 36, 37, 38, 39, 40, 41, 42, 43, 44, 45, 46, 47, 48, 49, 50, 51, 52, 53, 54, 55, 56, 57, 58, 59, 60, 61, 62, 63, 70, 71] (by decide +kernel) (by decide +kernel)
set_option maxRecDepth 20000 in
theorem gX2_beginsSigned_X5_holds : GoodIn wsX2_beginsSigned (wsV RX2 54 RX5 yX5_holds wsX5_holds) := goodIn_app (goodIn_of _ (by decide +kernel)) ggX2_beginsSigned_X5_holds
theorem dX2_beginsSigned_0 : decode cX2_beginsSigned 0 = .ok (.aload_n 0, 1) := by decide +kernel
theorem dX2_beginsSigned_1 : decode cX2_beginsSigned 1 = .ok (.getfield 15, 3) := by decide +kernel
theorem dX2_beginsSigned_4 : decode cX2_beginsSigned 4 = .ok (.aload_n 0, 1) := by decide +kernel
theorem dX2_beginsSigned_5 : decode cX2_beginsSigned 5 = .ok (.getfield 29, 3) := by decide +kernel
theorem dX2_beginsSigned_8 : decode cX2_beginsSigned 8 = .ok (.isub, 1) := by decide +kernel
theorem dX2_beginsSigned_9 : decode cX2_beginsSigned 9 = .ok (.istore_n 1, 1) := by decide +kernel
theorem dX2_beginsSigned_10 : decode cX2_beginsSigned 10 = .ok (.iload_n 1, 1) := by decide +kernel
theorem dX2_beginsSigned_11 : decode cX2_beginsSigned 11 = .ok (.iconst 2, 1) := by decide +kernel
theorem dX2_beginsSigned_12 : decode cX2_beginsSigned 12 = .ok (.if_icmp .ne 19, 3) := by decide +kernel
theorem dX2_beginsSigned_15 : decode cX2_beginsSigned 15 = .ok (.aload_n 0, 1) := by decide +kernel
theorem dX2_beginsSigned_16 : decode cX2_beginsSigned 16 = .ok (.getfield 9, 3) := by decide +kernel
theorem dX2_beginsSigned_19 : decode cX2_beginsSigned 19 = .ok (.aload_n 0, 1) := by decide +kernel
theorem dX2_beginsSigned_20 : decode cX2_beginsSigned 20 = .ok (.getfield 29, 3) := by decide +kernel
theorem dX2_beginsSigned_23 : decode cX2_beginsSigned 23 = .ok (.ldc 52, 2) := by decide +kernel
theorem dX2_beginsSigned_25 : decode cX2_beginsSigned 25 = .ok (.invokevirtual 54, 3) := by decide +kernel
theorem dX2_beginsSigned_28 : decode cX2_beginsSigned 28 = .ok (.ifCond .ne 24, 3) := by decide +kernel
theorem dX2_beginsSigned_31 : decode cX2_beginsSigned 31 = .ok (.iload_n 1, 1) := by decide +kernel
theorem dX2_beginsSigned_32 : decode cX2_beginsSigned 32 = .ok (.iconst 3, 1) := by decide +kernel
theorem dX2_beginsSigned_33 : decode cX2_beginsSigned 33 = .ok (.if_icmp .ne 23, 3) := by decide +kernel
theorem dX2_beginsSigned_36 : decode cX2_beginsSigned 36 = .ok (.aload_n 0, 1) := by decide +kernel
theorem dX2_beginsSigned_37 : decode cX2_beginsSigned 37 = .ok (.getfield 9, 3) := by decide +kernel
theorem dX2_beginsSigned_40 : decode cX2_beginsSigned 40 = .ok (.aload_n 0, 1) := by decide +kernel
theorem dX2_beginsSigned_41 : decode cX2_beginsSigned 41 = .ok (.getfield 29, 3) := by decide +kernel
theorem dX2_beginsSigned_44 : decode cX2_beginsSigned 44 = .ok (.ldc 58, 2) := by decide +kernel
theorem dX2_beginsSigned_46 : decode cX2_beginsSigned 46 = .ok (.invokevirtual 54, 3) := by decide +kernel
theorem dX2_beginsSigned_49 : decode cX2_beginsSigned 49 = .ok (.ifCond .eq 7, 3) := by decide +kernel
theorem dX2_beginsSigned_52 : decode cX2_beginsSigned 52 = .ok (.iconst 1, 1) := by decide +kernel
theorem dX2_beginsSigned_53 : decode cX2_beginsSigned 53 = .ok (.goto 4, 3) := by decide +kernel
theorem dX2_beginsSigned_56 : decode cX2_beginsSigned 56 = .ok (.iconst 0, 1) := by decide +kernel
theorem dX2_beginsSigned_57 : decode cX2_beginsSigned 57 = .ok (.ireturn, 1) := by decide +kernel
set_option maxRecDepth 20000 in
theorem ggX2_leads_X5_get : GoodIn wsX2_leads wsX5_get := goodIn_r _ [8, 9, 10, 91, 92] (by decide +kernel) (by decide +kernel)
set_option maxRecDepth 20000 in
theorem gX2_leads_X5_get : GoodIn wsX2_leads (wsV RX2 32 RX5 yX5_get wsX5_get) := goodIn_app (goodIn_of _ (by decide +kernel)) ggX2_leads_X5_get
set_option maxRecDepth 20000 in
theorem ggX2_leads_X2_hasAt : GoodIn wsX2_leads wsX2_hasAt := goodIn_r _ [15, 2, 1, 3, 4, 5, 6, 7, 8, 9, 10, 85, 86, 87, 88, 89, 90, 91, 92] (by decide +kernel) (by decide +kernel)
set_option maxRecDepth 20000 in
theorem gX2_leads_X2_hasAt : GoodIn wsX2_leads (wsV RX2 60 RX2 yX2_hasAt wsX2_hasAt) := goodIn_app (goodIn_of _ (by decide +kernel)) ggX2_leads_X2_hasAt
set_option maxRecDepth 20000 in
theorem ggX2_leads_X2_hasWord : GoodIn wsX2_leads wsX2_hasWord := goodIn_r _ [19, 2, 1, 3, 20, 21, 22, 23, 24, 25, 26, 27, 28, 29, 30, 31, 32, 33, 34, 7, 35, 36, 37, 5, 6, 8, 9, 10, 38, 39, 40, 41, 42, 43, 44, 45, 46, 47, 48, 49, 50, 51, 52, 53, 54, 55, 56, 57, 58, 59, 60, 61, 62, 63, 64, 65, 66, 67, 68, 69, 70, 71, 72, 73, 74, 4, 75, 76, 77, 78, 79, 80, 81, 82, 83, 84, 85, 86, 87, 88, 89, 90, 91, 92] (by decide +kernel) (by decide +kernel)
set_option maxRecDepth 20000 in
theorem gX2_leads_X2_hasWord : GoodIn wsX2_leads (wsV RX2 65 RX2 yX2_hasWord wsX2_hasWord) := goodIn_app (goodIn_of _ (by decide +kernel)) ggX2_leads_X2_hasWord
theorem dX2_leads_0 : decode cX2_leads 0 = .ok (.aload_n 0, 1) := by decide +kernel
theorem dX2_leads_1 : decode cX2_leads 1 = .ok (.getfield 15, 3) := by decide +kernel
theorem dX2_leads_4 : decode cX2_leads 4 = .ok (.aload_n 0, 1) := by decide +kernel
theorem dX2_leads_5 : decode cX2_leads 5 = .ok (.getfield 29, 3) := by decide +kernel
theorem dX2_leads_8 : decode cX2_leads 8 = .ok (.if_icmp .le 50, 3) := by decide +kernel
theorem dX2_leads_11 : decode cX2_leads 11 = .ok (.aload_n 0, 1) := by decide +kernel
theorem dX2_leads_12 : decode cX2_leads 12 = .ok (.getfield 9, 3) := by decide +kernel
theorem dX2_leads_15 : decode cX2_leads 15 = .ok (.aload_n 0, 1) := by decide +kernel
theorem dX2_leads_16 : decode cX2_leads 16 = .ok (.getfield 15, 3) := by decide +kernel
theorem dX2_leads_19 : decode cX2_leads 19 = .ok (.iconst 1, 1) := by decide +kernel
theorem dX2_leads_20 : decode cX2_leads 20 = .ok (.isub, 1) := by decide +kernel
theorem dX2_leads_21 : decode cX2_leads 21 = .ok (.invokevirtual 32, 3) := by decide +kernel
theorem dX2_leads_24 : decode cX2_leads 24 = .ok (.bipush 58, 2) := by decide +kernel
theorem dX2_leads_26 : decode cX2_leads 26 = .ok (.if_icmp .ne 32, 3) := by decide +kernel
theorem dX2_leads_29 : decode cX2_leads 29 = .ok (.aload_n 0, 1) := by decide +kernel
theorem dX2_leads_30 : decode cX2_leads 30 = .ok (.invokevirtual 60, 3) := by decide +kernel
theorem dX2_leads_33 : decode cX2_leads 33 = .ok (.ifCond .ne 21, 3) := by decide +kernel
theorem dX2_leads_36 : decode cX2_leads 36 = .ok (.aload_n 0, 1) := by decide +kernel
theorem dX2_leads_37 : decode cX2_leads 37 = .ok (.ldc 63, 2) := by decide +kernel
theorem dX2_leads_39 : decode cX2_leads 39 = .ok (.invokevirtual 65, 3) := by decide +kernel
theorem dX2_leads_42 : decode cX2_leads 42 = .ok (.ifCond .ne 12, 3) := by decide +kernel
theorem dX2_leads_45 : decode cX2_leads 45 = .ok (.aload_n 0, 1) := by decide +kernel
theorem dX2_leads_46 : decode cX2_leads 46 = .ok (.ldc 69, 2) := by decide +kernel
theorem dX2_leads_48 : decode cX2_leads 48 = .ok (.invokevirtual 65, 3) := by decide +kernel
theorem dX2_leads_51 : decode cX2_leads 51 = .ok (.ifCond .eq 7, 3) := by decide +kernel
theorem dX2_leads_54 : decode cX2_leads 54 = .ok (.iconst 1, 1) := by decide +kernel
theorem dX2_leads_55 : decode cX2_leads 55 = .ok (.goto 4, 3) := by decide +kernel
theorem dX2_leads_58 : decode cX2_leads 58 = .ok (.iconst 0, 1) := by decide +kernel
theorem dX2_leads_59 : decode cX2_leads 59 = .ok (.ireturn, 1) := by decide +kernel
set_option maxRecDepth 20000 in
theorem ggX2_hasAt_X5_get : GoodIn wsX2_hasAt wsX5_get := goodIn_r _ [8, 9, 10, 17, 18] (by decide +kernel) (by decide +kernel)
set_option maxRecDepth 20000 in
theorem gX2_hasAt_X5_get : GoodIn wsX2_hasAt (wsV RX2 32 RX5 yX5_get wsX5_get) := goodIn_app (goodIn_of _ (by decide +kernel)) ggX2_hasAt_X5_get
theorem dX2_hasAt_0 : decode cX2_hasAt 0 = .ok (.aload_n 0, 1) := by decide +kernel
theorem dX2_hasAt_1 : decode cX2_hasAt 1 = .ok (.getfield 29, 3) := by decide +kernel
theorem dX2_hasAt_4 : decode cX2_hasAt 4 = .ok (.istore_n 1, 1) := by decide +kernel
theorem dX2_hasAt_5 : decode cX2_hasAt 5 = .ok (.iload_n 1, 1) := by decide +kernel
theorem dX2_hasAt_6 : decode cX2_hasAt 6 = .ok (.aload_n 0, 1) := by decide +kernel
theorem dX2_hasAt_7 : decode cX2_hasAt 7 = .ok (.getfield 15, 3) := by decide +kernel
theorem dX2_hasAt_10 : decode cX2_hasAt 10 = .ok (.if_icmp .ge 24, 3) := by decide +kernel
theorem dX2_hasAt_13 : decode cX2_hasAt 13 = .ok (.aload_n 0, 1) := by decide +kernel
theorem dX2_hasAt_14 : decode cX2_hasAt 14 = .ok (.getfield 9, 3) := by decide +kernel
theorem dX2_hasAt_17 : decode cX2_hasAt 17 = .ok (.iload_n 1, 1) := by decide +kernel
theorem dX2_hasAt_18 : decode cX2_hasAt 18 = .ok (.invokevirtual 32, 3) := by decide +kernel
theorem dX2_hasAt_21 : decode cX2_hasAt 21 = .ok (.bipush 64, 2) := by decide +kernel
theorem dX2_hasAt_23 : decode cX2_hasAt 23 = .ok (.if_icmp .ne 5, 3) := by decide +kernel
theorem dX2_hasAt_26 : decode cX2_hasAt 26 = .ok (.iconst 1, 1) := by decide +kernel
theorem dX2_hasAt_27 : decode cX2_hasAt 27 = .ok (.ireturn, 1) := by decide +kernel
theorem dX2_hasAt_28 : decode cX2_hasAt 28 = .ok (.iinc 1 1, 3) := by decide +kernel
theorem dX2_hasAt_31 : decode cX2_hasAt 31 = .ok (.goto (-26), 3) := by decide +kernel
theorem dX2_hasAt_34 : decode cX2_hasAt 34 = .ok (.iconst 0, 1) := by decide +kernel
theorem dX2_hasAt_35 : decode cX2_hasAt 35 = .ok (.ireturn, 1) := by decide +kernel
set_option maxRecDepth 20000 in
theorem ggX2_hasWord_J0_length_8abf5 : GoodIn wsX2_hasWord wsJ0_length_8abf5 := goodIn_r _ [8, 9, 10, 11, 12, 7, 13, 14, 15] (by decide +kernel) (by decide +kernel)
set_option maxRecDepth 20000 in
theorem gX2_hasWord_J0_length_8abf5 : GoodIn wsX2_hasWord (wsV RX2 71 RJ0 yJ0_length_8abf5 wsJ0_length_8abf5) := goodIn_app (goodIn_of _ (by decide +kernel)) ggX2_hasWord_J0_length_8abf5
set_option maxRecDepth 20000 in
theorem ggX2_hasWord_X5_holds : GoodIn wsX2_hasWord wsX5_holds := goodIn_r _ [20, 21, 5, 6, 7, 8, 9, 10, 11, 12, 13, 14, 15, 22, 23, 24, 19, 25, 26, 27, 28, 29, 30, 31, 32, 33, 34, 35, 36, 37, 38, 39, 40, 41, 42, 43, 44, 45, 46, 47, 48, 49, 50, 51, 52, 53, 54, 55, 56, 57, 58, 59, 60, 61, 62, 63, 64, 82, 83] (by decide +kernel) (by decide +kernel)
set_option maxRecDepth 20000 in
theorem gX2_hasWord_X5_holds : GoodIn wsX2_hasWord (wsV RX2 54 RX5 yX5_holds wsX5_holds) := goodIn_app (goodIn_of _ (by decide +kernel)) ggX2_hasWord_X5_holds
set_option maxRecDepth 20000 in
theorem ggX2_hasWord_X5_get : GoodIn wsX2_hasWord wsX5_get := goodIn_r _ [25, 26, 27, 82, 83] (by decide +kernel) (by decide +kernel)
set_option maxRecDepth 20000 in
theorem gX2_hasWord_X5_get : GoodIn wsX2_hasWord (wsV RX2 32 RX5 yX5_get wsX5_get) := goodIn_app (goodIn_of _ (by decide +kernel)) ggX2_hasWord_X5_get
set_option maxRecDepth 20000 in
theorem ggX2_hasWord_X0_isLetterOrDigit : GoodIn wsX2_hasWord wsX0_isLetterOrDigit := goodIn_r _ [69, 70, 71, 68, 72, 73, 74, 75] (by decide +kernel) (by decide +kernel)
set_option maxRecDepth 20000 in
theorem gX2_hasWord_X0_isLetterOrDigit : GoodIn wsX2_hasWord (va_wsS RX2 76 yX0_isLetterOrDigit wsX0_isLetterOrDigit) := goodIn_app (goodIn_of _ (by decide +kernel)) ggX2_hasWord_X0_isLetterOrDigit
theorem dX2_hasWord_0 : decode cX2_hasWord 0 = .ok (.aload_n 0, 1) := by decide +kernel
theorem dX2_hasWord_1 : decode cX2_hasWord 1 = .ok (.getfield 29, 3) := by decide +kernel
theorem dX2_hasWord_4 : decode cX2_hasWord 4 = .ok (.istore_n 2, 1) := by decide +kernel
theorem dX2_hasWord_5 : decode cX2_hasWord 5 = .ok (.iload_n 2, 1) := by decide +kernel
theorem dX2_hasWord_6 : decode cX2_hasWord 6 = .ok (.aload_n 1, 1) := by decide +kernel
theorem dX2_hasWord_7 : decode cX2_hasWord 7 = .ok (.invokevirtual 71, 3) := by decide +kernel
theorem dX2_hasWord_10 : decode cX2_hasWord 10 = .ok (.iadd, 1) := by decide +kernel
theorem dX2_hasWord_11 : decode cX2_hasWord 11 = .ok (.aload_n 0, 1) := by decide +kernel
theorem dX2_hasWord_12 : decode cX2_hasWord 12 = .ok (.getfield 15, 3) := by decide +kernel
theorem dX2_hasWord_15 : decode cX2_hasWord 15 = .ok (.if_icmp .gt 58, 3) := by decide +kernel
theorem dX2_hasWord_18 : decode cX2_hasWord 18 = .ok (.aload_n 0, 1) := by decide +kernel
theorem dX2_hasWord_19 : decode cX2_hasWord 19 = .ok (.getfield 9, 3) := by decide +kernel
theorem dX2_hasWord_22 : decode cX2_hasWord 22 = .ok (.iload_n 2, 1) := by decide +kernel
theorem dX2_hasWord_23 : decode cX2_hasWord 23 = .ok (.aload_n 1, 1) := by decide +kernel
theorem dX2_hasWord_24 : decode cX2_hasWord 24 = .ok (.invokevirtual 54, 3) := by decide +kernel
theorem dX2_hasWord_27 : decode cX2_hasWord 27 = .ok (.ifCond .eq 40, 3) := by decide +kernel
theorem dX2_hasWord_30 : decode cX2_hasWord 30 = .ok (.aload_n 0, 1) := by decide +kernel
theorem dX2_hasWord_31 : decode cX2_hasWord 31 = .ok (.getfield 9, 3) := by decide +kernel
theorem dX2_hasWord_34 : decode cX2_hasWord 34 = .ok (.iload_n 2, 1) := by decide +kernel
theorem dX2_hasWord_35 : decode cX2_hasWord 35 = .ok (.iconst 1, 1) := by decide +kernel
theorem dX2_hasWord_36 : decode cX2_hasWord 36 = .ok (.isub, 1) := by decide +kernel
theorem dX2_hasWord_37 : decode cX2_hasWord 37 = .ok (.invokevirtual 32, 3) := by decide +kernel
theorem dX2_hasWord_40 : decode cX2_hasWord 40 = .ok (.invokestatic 76, 3) := by decide +kernel
theorem dX2_hasWord_43 : decode cX2_hasWord 43 = .ok (.ifCond .ne 24, 3) := by decide +kernel
theorem dX2_hasWord_46 : decode cX2_hasWord 46 = .ok (.aload_n 0, 1) := by decide +kernel
theorem dX2_hasWord_47 : decode cX2_hasWord 47 = .ok (.getfield 9, 3) := by decide +kernel
theorem dX2_hasWord_50 : decode cX2_hasWord 50 = .ok (.iload_n 2, 1) := by decide +kernel
theorem dX2_hasWord_51 : decode cX2_hasWord 51 = .ok (.aload_n 1, 1) := by decide +kernel
theorem dX2_hasWord_52 : decode cX2_hasWord 52 = .ok (.invokevirtual 71, 3) := by decide +kernel
theorem dX2_hasWord_55 : decode cX2_hasWord 55 = .ok (.iadd, 1) := by decide +kernel
theorem dX2_hasWord_56 : decode cX2_hasWord 56 = .ok (.invokevirtual 32, 3) := by decide +kernel
theorem dX2_hasWord_59 : decode cX2_hasWord 59 = .ok (.invokestatic 76, 3) := by decide +kernel
theorem dX2_hasWord_62 : decode cX2_hasWord 62 = .ok (.ifCond .ne 5, 3) := by decide +kernel
theorem dX2_hasWord_65 : decode cX2_hasWord 65 = .ok (.iconst 1, 1) := by decide +kernel
theorem dX2_hasWord_66 : decode cX2_hasWord 66 = .ok (.ireturn, 1) := by decide +kernel
theorem dX2_hasWord_67 : decode cX2_hasWord 67 = .ok (.iinc 2 1, 3) := by decide +kernel
theorem dX2_hasWord_70 : decode cX2_hasWord 70 = .ok (.goto (-65), 3) := by decide +kernel
theorem dX2_hasWord_73 : decode cX2_hasWord 73 = .ok (.iconst 0, 1) := by decide +kernel
theorem dX2_hasWord_74 : decode cX2_hasWord 74 = .ok (.ireturn, 1) := by decide +kernel
