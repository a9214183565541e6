theorem dX8_cut_0 : decode cX8_cut 0 = .ok (.aload_n 0, 1) := by decide +kernel
theorem dX8_cut_1 : decode cX8_cut 1 = .ok (.iconst 0, 1) := by decide +kernel
theorem dX8_cut_2 : decode cX8_cut 2 = .ok (.putfield 60, 3) := by decide +kernel
theorem dX8_cut_5 : decode cX8_cut 5 = .ok (.aload_n 0, 1) := by decide +kernel
theorem dX8_cut_6 : decode cX8_cut 6 = .ok (.invokevirtual 262, 3) := by decide +kernel
theorem dX8_cut_9 : decode cX8_cut 9 = .ok (.aload_n 0, 1) := by decide +kernel
theorem dX8_cut_10 : decode cX8_cut 10 = .ok (.iconst 0, 1) := by decide +kernel
theorem dX8_cut_11 : decode cX8_cut 11 = .ok (.putfield 268, 3) := by decide +kernel
theorem dX8_cut_14 : decode cX8_cut 14 = .ok (.aload_n 0, 1) := by decide +kernel
theorem dX8_cut_15 : decode cX8_cut 15 = .ok (.iconst 0, 1) := by decide +kernel
theorem dX8_cut_16 : decode cX8_cut 16 = .ok (.putfield 280, 3) := by decide +kernel
theorem dX8_cut_19 : decode cX8_cut 19 = .ok (.iconst 0, 1) := by decide +kernel
theorem dX8_cut_20 : decode cX8_cut 20 = .ok (.istore_n 2, 1) := by decide +kernel
theorem dX8_cut_21 : decode cX8_cut 21 = .ok (.iload_n 2, 1) := by decide +kernel
theorem dX8_cut_22 : decode cX8_cut 22 = .ok (.aload_n 0, 1) := by decide +kernel
theorem dX8_cut_23 : decode cX8_cut 23 = .ok (.getfield 249, 3) := by decide +kernel
theorem dX8_cut_26 : decode cX8_cut 26 = .ok (.if_icmp .ge 63, 3) := by decide +kernel
theorem dX8_cut_29 : decode cX8_cut 29 = .ok (.iload_n 1, 1) := by decide +kernel
theorem dX8_cut_30 : decode cX8_cut 30 = .ok (.ifCond .eq 30, 3) := by decide +kernel
theorem dX8_cut_33 : decode cX8_cut 33 = .ok (.aload_n 0, 1) := by decide +kernel
theorem dX8_cut_34 : decode cX8_cut 34 = .ok (.getfield 22, 3) := by decide +kernel
theorem dX8_cut_37 : decode cX8_cut 37 = .ok (.iload_n 2, 1) := by decide +kernel
theorem dX8_cut_38 : decode cX8_cut 38 = .ok (.iaload, 1) := by decide +kernel
theorem dX8_cut_39 : decode cX8_cut 39 = .ok (.ifCond .ne 44, 3) := by decide +kernel
theorem dX8_cut_42 : decode cX8_cut 42 = .ok (.aload_n 0, 1) := by decide +kernel
theorem dX8_cut_43 : decode cX8_cut 43 = .ok (.getfield 25, 3) := by decide +kernel
theorem dX8_cut_46 : decode cX8_cut 46 = .ok (.iload_n 2, 1) := by decide +kernel
theorem dX8_cut_47 : decode cX8_cut 47 = .ok (.baload, 1) := by decide +kernel
theorem dX8_cut_48 : decode cX8_cut 48 = .ok (.ifCond .ne 35, 3) := by decide +kernel
theorem dX8_cut_51 : decode cX8_cut 51 = .ok (.aload_n 0, 1) := by decide +kernel
theorem dX8_cut_52 : decode cX8_cut 52 = .ok (.getfield 29, 3) := by decide +kernel
theorem dX8_cut_55 : decode cX8_cut 55 = .ok (.iload_n 2, 1) := by decide +kernel
theorem dX8_cut_56 : decode cX8_cut 56 = .ok (.baload, 1) := by decide +kernel
theorem dX8_cut_57 : decode cX8_cut 57 = .ok (.ifCond .ne 26, 3) := by decide +kernel
theorem dX8_cut_60 : decode cX8_cut 60 = .ok (.aload_n 0, 1) := by decide +kernel
theorem dX8_cut_61 : decode cX8_cut 61 = .ok (.aload_n 0, 1) := by decide +kernel
theorem dX8_cut_62 : decode cX8_cut 62 = .ok (.getfield 16, 3) := by decide +kernel
theorem dX8_cut_65 : decode cX8_cut 65 = .ok (.iload_n 2, 1) := by decide +kernel
theorem dX8_cut_66 : decode cX8_cut 66 = .ok (.iaload, 1) := by decide +kernel
theorem dX8_cut_67 : decode cX8_cut 67 = .ok (.aload_n 0, 1) := by decide +kernel
theorem dX8_cut_68 : decode cX8_cut 68 = .ok (.getfield 16, 3) := by decide +kernel
theorem dX8_cut_71 : decode cX8_cut 71 = .ok (.iload_n 2, 1) := by decide +kernel
theorem dX8_cut_72 : decode cX8_cut 72 = .ok (.iaload, 1) := by decide +kernel
theorem dX8_cut_73 : decode cX8_cut 73 = .ok (.aload_n 0, 1) := by decide +kernel
theorem dX8_cut_74 : decode cX8_cut 74 = .ok (.getfield 19, 3) := by decide +kernel
theorem dX8_cut_77 : decode cX8_cut 77 = .ok (.iload_n 2, 1) := by decide +kernel
theorem dX8_cut_78 : decode cX8_cut 78 = .ok (.iaload, 1) := by decide +kernel
theorem dX8_cut_79 : decode cX8_cut 79 = .ok (.iadd, 1) := by decide +kernel
theorem dX8_cut_80 : decode cX8_cut 80 = .ok (.invokevirtual 297, 3) := by decide +kernel
theorem dX8_cut_83 : decode cX8_cut 83 = .ok (.iinc 2 1, 3) := by decide +kernel
theorem dX8_cut_86 : decode cX8_cut 86 = .ok (.goto (-65), 3) := by decide +kernel
theorem dX8_cut_89 : decode cX8_cut 89 = .ok (.aload_n 0, 1) := by decide +kernel
theorem dX8_cut_90 : decode cX8_cut 90 = .ok (.getfield 268, 3) := by decide +kernel
theorem dX8_cut_93 : decode cX8_cut 93 = .ok (.ireturn, 1) := by decide +kernel
theorem dX8_isToken_0 : decode cX8_isToken 0 = .ok (.iload_n 1, 1) := by decide +kernel
theorem dX8_isToken_1 : decode cX8_isToken 1 = .ok (.ifCond .lt 15, 3) := by decide +kernel
theorem dX8_isToken_4 : decode cX8_isToken 4 = .ok (.iload_n 1, 1) := by decide +kernel
theorem dX8_isToken_5 : decode cX8_isToken 5 = .ok (.aload_n 0, 1) := by decide +kernel
theorem dX8_isToken_6 : decode cX8_isToken 6 = .ok (.getfield 268, 3) := by decide +kernel
theorem dX8_isToken_9 : decode cX8_isToken 9 = .ok (.if_icmp .ge 7, 3) := by decide +kernel
theorem dX8_isToken_12 : decode cX8_isToken 12 = .ok (.iconst 1, 1) := by decide +kernel
theorem dX8_isToken_13 : decode cX8_isToken 13 = .ok (.goto 4, 3) := by decide +kernel
theorem dX8_isToken_16 : decode cX8_isToken 16 = .ok (.iconst 0, 1) := by decide +kernel
theorem dX8_isToken_17 : decode cX8_isToken 17 = .ok (.ireturn, 1) := by decide +kernel
set_option maxRecDepth 20000 in
theorem ggX8_token_X8_isToken : GoodIn wsX8_token wsX8_isToken := goodIn_r _ [11, 12, 13, 14, 15, 16, 17, 18, 19, 20, 21, 22, 23, 24, 25, 26, 27, 28, 29, 30, 31, 32, 33, 34, 35, 36, 37, 38] (by decide +kernel) (by decide +kernel)
set_option maxRecDepth 20000 in
theorem gX8_token_X8_isToken : GoodIn wsX8_token (wsV RX8 300 RX8 yX8_isToken wsX8_isToken) := goodIn_app (goodIn_of _ (by decide +kernel)) ggX8_token_X8_isToken
theorem dX8_token_0 : decode cX8_token 0 = .ok (.aload_n 0, 1) := by decide +kernel
theorem dX8_token_1 : decode cX8_token 1 = .ok (.iconst 0, 1) := by decide +kernel
theorem dX8_token_2 : decode cX8_token 2 = .ok (.putfield 60, 3) := by decide +kernel
theorem dX8_token_5 : decode cX8_token 5 = .ok (.aload_n 0, 1) := by decide +kernel
theorem dX8_token_6 : decode cX8_token 6 = .ok (.iload_n 1, 1) := by decide +kernel
theorem dX8_token_7 : decode cX8_token 7 = .ok (.invokevirtual 300, 3) := by decide +kernel
theorem dX8_token_10 : decode cX8_token 10 = .ok (.ifCond .ne 5, 3) := by decide +kernel
theorem dX8_token_13 : decode cX8_token 13 = .ok (.iconst (-1), 1) := by decide +kernel
theorem dX8_token_14 : decode cX8_token 14 = .ok (.ireturn, 1) := by decide +kernel
theorem dX8_token_15 : decode cX8_token 15 = .ok (.iload_n 2, 1) := by decide +kernel
theorem dX8_token_16 : decode cX8_token 16 = .ok (.tableswitch 79 0 4 #[36, 43, 50, 57, 72], 36) := by decide +kernel
theorem dX8_token_52 : decode cX8_token 52 = .ok (.aload_n 0, 1) := by decide +kernel
theorem dX8_token_53 : decode cX8_token 53 = .ok (.getfield 35, 3) := by decide +kernel
theorem dX8_token_56 : decode cX8_token 56 = .ok (.iload_n 1, 1) := by decide +kernel
theorem dX8_token_57 : decode cX8_token 57 = .ok (.iaload, 1) := by decide +kernel
theorem dX8_token_58 : decode cX8_token 58 = .ok (.ireturn, 1) := by decide +kernel
theorem dX8_token_59 : decode cX8_token 59 = .ok (.aload_n 0, 1) := by decide +kernel
theorem dX8_token_60 : decode cX8_token 60 = .ok (.getfield 41, 3) := by decide +kernel
theorem dX8_token_63 : decode cX8_token 63 = .ok (.iload_n 1, 1) := by decide +kernel
theorem dX8_token_64 : decode cX8_token 64 = .ok (.iaload, 1) := by decide +kernel
theorem dX8_token_65 : decode cX8_token 65 = .ok (.ireturn, 1) := by decide +kernel
theorem dX8_token_66 : decode cX8_token 66 = .ok (.aload_n 0, 1) := by decide +kernel
theorem dX8_token_67 : decode cX8_token 67 = .ok (.getfield 44, 3) := by decide +kernel
theorem dX8_token_70 : decode cX8_token 70 = .ok (.iload_n 1, 1) := by decide +kernel
theorem dX8_token_71 : decode cX8_token 71 = .ok (.iaload, 1) := by decide +kernel
theorem dX8_token_72 : decode cX8_token 72 = .ok (.ireturn, 1) := by decide +kernel
theorem dX8_token_73 : decode cX8_token 73 = .ok (.aload_n 0, 1) := by decide +kernel
theorem dX8_token_74 : decode cX8_token 74 = .ok (.getfield 47, 3) := by decide +kernel
theorem dX8_token_77 : decode cX8_token 77 = .ok (.iload_n 1, 1) := by decide +kernel
theorem dX8_token_78 : decode cX8_token 78 = .ok (.baload, 1) := by decide +kernel
theorem dX8_token_79 : decode cX8_token 79 = .ok (.ifCond .eq 7, 3) := by decide +kernel
theorem dX8_token_82 : decode cX8_token 82 = .ok (.iconst 1, 1) := by decide +kernel
theorem dX8_token_83 : decode cX8_token 83 = .ok (.goto 4, 3) := by decide +kernel
theorem dX8_token_86 : decode cX8_token 86 = .ok (.iconst 0, 1) := by decide +kernel
theorem dX8_token_87 : decode cX8_token 87 = .ok (.ireturn, 1) := by decide +kernel
theorem dX8_token_88 : decode cX8_token 88 = .ok (.aload_n 0, 1) := by decide +kernel
theorem dX8_token_89 : decode cX8_token 89 = .ok (.getfield 38, 3) := by decide +kernel
theorem dX8_token_92 : decode cX8_token 92 = .ok (.iload_n 1, 1) := by decide +kernel
theorem dX8_token_93 : decode cX8_token 93 = .ok (.iaload, 1) := by decide +kernel
theorem dX8_token_94 : decode cX8_token 94 = .ok (.ireturn, 1) := by decide +kernel
theorem dX8_token_95 : decode cX8_token 95 = .ok (.iconst (-1), 1) := by decide +kernel
theorem dX8_token_96 : decode cX8_token 96 = .ok (.ireturn, 1) := by decide +kernel
set_option maxRecDepth 20000 in
theorem ggX8_letter_X8_isToken : GoodIn wsX8_letter wsX8_isToken := goodIn_r _ [10, 11, 12, 13, 14, 15, 16, 17, 18, 19, 20, 21, 22, 23, 24, 25, 26, 27, 28, 29, 30, 31, 32, 33, 34, 35, 36, 37] (by decide +kernel) (by decide +kernel)
set_option maxRecDepth 20000 in
theorem gX8_letter_X8_isToken : GoodIn wsX8_letter (wsV RX8 300 RX8 yX8_isToken wsX8_isToken) := goodIn_app (goodIn_of _ (by decide +kernel)) ggX8_letter_X8_isToken
theorem dX8_letter_0 : decode cX8_letter 0 = .ok (.aload_n 0, 1) := by decide +kernel
theorem dX8_letter_1 : decode cX8_letter 1 = .ok (.iconst 0, 1) := by decide +kernel
theorem dX8_letter_2 : decode cX8_letter 2 = .ok (.putfield 60, 3) := by decide +kernel
theorem dX8_letter_5 : decode cX8_letter 5 = .ok (.aload_n 0, 1) := by decide +kernel
theorem dX8_letter_6 : decode cX8_letter 6 = .ok (.iload_n 1, 1) := by decide +kernel
theorem dX8_letter_7 : decode cX8_letter 7 = .ok (.invokevirtual 300, 3) := by decide +kernel
theorem dX8_letter_10 : decode cX8_letter 10 = .ok (.ifCond .eq 30, 3) := by decide +kernel
theorem dX8_letter_13 : decode cX8_letter 13 = .ok (.iload_n 3, 1) := by decide +kernel
theorem dX8_letter_14 : decode cX8_letter 14 = .ok (.ifCond .lt 26, 3) := by decide +kernel
theorem dX8_letter_17 : decode cX8_letter 17 = .ok (.iload_n 3, 1) := by decide +kernel
theorem dX8_letter_18 : decode cX8_letter 18 = .ok (.iload_n 2, 1) := by decide +kernel
theorem dX8_letter_19 : decode cX8_letter 19 = .ok (.ifCond .eq 12, 3) := by decide +kernel
theorem dX8_letter_22 : decode cX8_letter 22 = .ok (.aload_n 0, 1) := by decide +kernel
theorem dX8_letter_23 : decode cX8_letter 23 = .ok (.getfield 44, 3) := by decide +kernel
theorem dX8_letter_26 : decode cX8_letter 26 = .ok (.iload_n 1, 1) := by decide +kernel
theorem dX8_letter_27 : decode cX8_letter 27 = .ok (.iaload, 1) := by decide +kernel
theorem dX8_letter_28 : decode cX8_letter 28 = .ok (.goto 9, 3) := by decide +kernel
theorem dX8_letter_31 : decode cX8_letter 31 = .ok (.aload_n 0, 1) := by decide +kernel
theorem dX8_letter_32 : decode cX8_letter 32 = .ok (.getfield 41, 3) := by decide +kernel
theorem dX8_letter_35 : decode cX8_letter 35 = .ok (.iload_n 1, 1) := by decide +kernel
theorem dX8_letter_36 : decode cX8_letter 36 = .ok (.iaload, 1) := by decide +kernel
theorem dX8_letter_37 : decode cX8_letter 37 = .ok (.if_icmp .lt 5, 3) := by decide +kernel
theorem dX8_letter_40 : decode cX8_letter 40 = .ok (.iconst (-1), 1) := by decide +kernel
theorem dX8_letter_41 : decode cX8_letter 41 = .ok (.ireturn, 1) := by decide +kernel
theorem dX8_letter_42 : decode cX8_letter 42 = .ok (.iload_n 2, 1) := by decide +kernel
theorem dX8_letter_43 : decode cX8_letter 43 = .ok (.ifCond .eq 17, 3) := by decide +kernel
theorem dX8_letter_46 : decode cX8_letter 46 = .ok (.aload_n 0, 1) := by decide +kernel
theorem dX8_letter_47 : decode cX8_letter 47 = .ok (.getfield 54, 3) := by decide +kernel
theorem dX8_letter_50 : decode cX8_letter 50 = .ok (.bipush 30, 2) := by decide +kernel
theorem dX8_letter_52 : decode cX8_letter 52 = .ok (.iload_n 1, 1) := by decide +kernel
theorem dX8_letter_53 : decode cX8_letter 53 = .ok (.imul, 1) := by decide +kernel
theorem dX8_letter_54 : decode cX8_letter 54 = .ok (.iload_n 3, 1) := by decide +kernel
theorem dX8_letter_55 : decode cX8_letter 55 = .ok (.iadd, 1) := by decide +kernel
theorem dX8_letter_56 : decode cX8_letter 56 = .ok (.iaload, 1) := by decide +kernel
theorem dX8_letter_57 : decode cX8_letter 57 = .ok (.goto 14, 3) := by decide +kernel
theorem dX8_letter_60 : decode cX8_letter 60 = .ok (.aload_n 0, 1) := by decide +kernel
theorem dX8_letter_61 : decode cX8_letter 61 = .ok (.getfield 51, 3) := by decide +kernel
theorem dX8_letter_64 : decode cX8_letter 64 = .ok (.bipush 30, 2) := by decide +kernel
theorem dX8_letter_66 : decode cX8_letter 66 = .ok (.iload_n 1, 1) := by decide +kernel
theorem dX8_letter_67 : decode cX8_letter 67 = .ok (.imul, 1) := by decide +kernel
theorem dX8_letter_68 : decode cX8_letter 68 = .ok (.iload_n 3, 1) := by decide +kernel
theorem dX8_letter_69 : decode cX8_letter 69 = .ok (.iadd, 1) := by decide +kernel
theorem dX8_letter_70 : decode cX8_letter 70 = .ok (.iaload, 1) := by decide +kernel
theorem dX8_letter_71 : decode cX8_letter 71 = .ok (.ireturn, 1) := by decide +kernel
theorem dX8_sameStem_0 : decode cX8_sameStem 0 = .ok (.aload_n 0, 1) := by decide +kernel
theorem dX8_sameStem_1 : decode cX8_sameStem 1 = .ok (.getfield 44, 3) := by decide +kernel
theorem dX8_sameStem_4 : decode cX8_sameStem 4 = .ok (.iload_n 1, 1) := by decide +kernel
theorem dX8_sameStem_5 : decode cX8_sameStem 5 = .ok (.iaload, 1) := by decide +kernel
theorem dX8_sameStem_6 : decode cX8_sameStem 6 = .ok (.aload_n 0, 1) := by decide +kernel
theorem dX8_sameStem_7 : decode cX8_sameStem 7 = .ok (.getfield 44, 3) := by decide +kernel
theorem dX8_sameStem_10 : decode cX8_sameStem 10 = .ok (.iload_n 2, 1) := by decide +kernel
theorem dX8_sameStem_11 : decode cX8_sameStem 11 = .ok (.iaload, 1) := by decide +kernel
theorem dX8_sameStem_12 : decode cX8_sameStem 12 = .ok (.if_icmp .eq 5, 3) := by decide +kernel
theorem dX8_sameStem_15 : decode cX8_sameStem 15 = .ok (.iconst 0, 1) := by decide +kernel
theorem dX8_sameStem_16 : decode cX8_sameStem 16 = .ok (.ireturn, 1) := by decide +kernel
theorem dX8_sameStem_17 : decode cX8_sameStem 17 = .ok (.iconst 0, 1) := by decide +kernel
theorem dX8_sameStem_18 : decode cX8_sameStem 18 = .ok (.istore_n 3, 1) := by decide +kernel
theorem dX8_sameStem_19 : decode cX8_sameStem 19 = .ok (.iload_n 3, 1) := by decide +kernel
theorem dX8_sameStem_20 : decode cX8_sameStem 20 = .ok (.aload_n 0, 1) := by decide +kernel
theorem dX8_sameStem_21 : decode cX8_sameStem 21 = .ok (.getfield 44, 3) := by decide +kernel
theorem dX8_sameStem_24 : decode cX8_sameStem 24 = .ok (.iload_n 1, 1) := by decide +kernel
theorem dX8_sameStem_25 : decode cX8_sameStem 25 = .ok (.iaload, 1) := by decide +kernel
theorem dX8_sameStem_26 : decode cX8_sameStem 26 = .ok (.if_icmp .ge 36, 3) := by decide +kernel
theorem dX8_sameStem_29 : decode cX8_sameStem 29 = .ok (.aload_n 0, 1) := by decide +kernel
theorem dX8_sameStem_30 : decode cX8_sameStem 30 = .ok (.getfield 54, 3) := by decide +kernel
theorem dX8_sameStem_33 : decode cX8_sameStem 33 = .ok (.bipush 30, 2) := by decide +kernel
theorem dX8_sameStem_35 : decode cX8_sameStem 35 = .ok (.iload_n 1, 1) := by decide +kernel
theorem dX8_sameStem_36 : decode cX8_sameStem 36 = .ok (.imul, 1) := by decide +kernel
theorem dX8_sameStem_37 : decode cX8_sameStem 37 = .ok (.iload_n 3, 1) := by decide +kernel
theorem dX8_sameStem_38 : decode cX8_sameStem 38 = .ok (.iadd, 1) := by decide +kernel
theorem dX8_sameStem_39 : decode cX8_sameStem 39 = .ok (.iaload, 1) := by decide +kernel
theorem dX8_sameStem_40 : decode cX8_sameStem 40 = .ok (.aload_n 0, 1) := by decide +kernel
theorem dX8_sameStem_41 : decode cX8_sameStem 41 = .ok (.getfield 54, 3) := by decide +kernel
theorem dX8_sameStem_44 : decode cX8_sameStem 44 = .ok (.bipush 30, 2) := by decide +kernel
theorem dX8_sameStem_46 : decode cX8_sameStem 46 = .ok (.iload_n 2, 1) := by decide +kernel
theorem dX8_sameStem_47 : decode cX8_sameStem 47 = .ok (.imul, 1) := by decide +kernel
theorem dX8_sameStem_48 : decode cX8_sameStem 48 = .ok (.iload_n 3, 1) := by decide +kernel
theorem dX8_sameStem_49 : decode cX8_sameStem 49 = .ok (.iadd, 1) := by decide +kernel
theorem dX8_sameStem_50 : decode cX8_sameStem 50 = .ok (.iaload, 1) := by decide +kernel
theorem dX8_sameStem_51 : decode cX8_sameStem 51 = .ok (.if_icmp .eq 5, 3) := by decide +kernel
theorem dX8_sameStem_54 : decode cX8_sameStem 54 = .ok (.iconst 0, 1) := by decide +kernel
theorem dX8_sameStem_55 : decode cX8_sameStem 55 = .ok (.ireturn, 1) := by decide +kernel
theorem dX8_sameStem_56 : decode cX8_sameStem 56 = .ok (.iinc 3 1, 3) := by decide +kernel
theorem dX8_sameStem_59 : decode cX8_sameStem 59 = .ok (.goto (-40), 3) := by decide +kernel
theorem dX8_sameStem_62 : decode cX8_sameStem 62 = .ok (.iconst 1, 1) := by decide +kernel
theorem dX8_sameStem_63 : decode cX8_sameStem 63 = .ok (.ireturn, 1) := by decide +kernel
set_option maxRecDepth 20000 in
theorem ggX8_different_X8_sameStem : GoodIn wsX8_different wsX8_sameStem := goodIn_r _ [8, 9, 10, 11, 12, 13, 14, 15, 16, 17, 18, 19, 20, 21, 22, 23, 24, 25, 26, 27, 28, 29, 30, 31, 32, 33, 34, 35, 36] (by decide +kernel) (by decide +kernel)
set_option maxRecDepth 20000 in
theorem gX8_different_X8_sameStem : GoodIn wsX8_different (wsV RX8 303 RX8 yX8_sameStem wsX8_sameStem) := goodIn_app (goodIn_of _ (by decide +kernel)) ggX8_different_X8_sameStem
theorem dX8_different_0 : decode cX8_different 0 = .ok (.aload_n 0, 1) := by decide +kernel
theorem dX8_different_1 : decode cX8_different 1 = .ok (.iconst 0, 1) := by decide +kernel
theorem dX8_different_2 : decode cX8_different 2 = .ok (.putfield 60, 3) := by decide +kernel
theorem dX8_different_5 : decode cX8_different 5 = .ok (.iconst 0, 1) := by decide +kernel
theorem dX8_different_6 : decode cX8_different 6 = .ok (.istore_n 1, 1) := by decide +kernel
theorem dX8_different_7 : decode cX8_different 7 = .ok (.iconst 0, 1) := by decide +kernel
theorem dX8_different_8 : decode cX8_different 8 = .ok (.istore_n 2, 1) := by decide +kernel
theorem dX8_different_9 : decode cX8_different 9 = .ok (.iload_n 2, 1) := by decide +kernel
theorem dX8_different_10 : decode cX8_different 10 = .ok (.aload_n 0, 1) := by decide +kernel
theorem dX8_different_11 : decode cX8_different 11 = .ok (.getfield 268, 3) := by decide +kernel
theorem dX8_different_14 : decode cX8_different 14 = .ok (.if_icmp .ge 72, 3) := by decide +kernel
theorem dX8_different_17 : decode cX8_different 17 = .ok (.aload_n 0, 1) := by decide +kernel
theorem dX8_different_18 : decode cX8_different 18 = .ok (.getfield 47, 3) := by decide +kernel
theorem dX8_different_21 : decode cX8_different 21 = .ok (.iload_n 2, 1) := by decide +kernel
theorem dX8_different_22 : decode cX8_different 22 = .ok (.baload, 1) := by decide +kernel
theorem dX8_different_23 : decode cX8_different 23 = .ok (.ifCond .ne 7, 3) := by decide +kernel
theorem dX8_different_26 : decode cX8_different 26 = .ok (.iconst 1, 1) := by decide +kernel
theorem dX8_different_27 : decode cX8_different 27 = .ok (.goto 4, 3) := by decide +kernel
theorem dX8_different_30 : decode cX8_different 30 = .ok (.iconst 0, 1) := by decide +kernel
theorem dX8_different_31 : decode cX8_different 31 = .ok (.istore_n 3, 1) := by decide +kernel
theorem dX8_different_32 : decode cX8_different 32 = .ok (.iconst 0, 1) := by decide +kernel
theorem dX8_different_33 : decode cX8_different 33 = .ok (.istore 4, 2) := by decide +kernel
theorem dX8_different_35 : decode cX8_different 35 = .ok (.iload 4, 2) := by decide +kernel
theorem dX8_different_37 : decode cX8_different 37 = .ok (.iload_n 2, 1) := by decide +kernel
theorem dX8_different_38 : decode cX8_different 38 = .ok (.if_icmp .ge 35, 3) := by decide +kernel
theorem dX8_different_41 : decode cX8_different 41 = .ok (.iload_n 3, 1) := by decide +kernel
theorem dX8_different_42 : decode cX8_different 42 = .ok (.ifCond .eq 31, 3) := by decide +kernel
theorem dX8_different_45 : decode cX8_different 45 = .ok (.aload_n 0, 1) := by decide +kernel
theorem dX8_different_46 : decode cX8_different 46 = .ok (.getfield 47, 3) := by decide +kernel
theorem dX8_different_49 : decode cX8_different 49 = .ok (.iload 4, 2) := by decide +kernel
theorem dX8_different_51 : decode cX8_different 51 = .ok (.baload, 1) := by decide +kernel
theorem dX8_different_52 : decode cX8_different 52 = .ok (.ifCond .ne 15, 3) := by decide +kernel
theorem dX8_different_55 : decode cX8_different 55 = .ok (.aload_n 0, 1) := by decide +kernel
theorem dX8_different_56 : decode cX8_different 56 = .ok (.iload 4, 2) := by decide +kernel
theorem dX8_different_58 : decode cX8_different 58 = .ok (.iload_n 2, 1) := by decide +kernel
theorem dX8_different_59 : decode cX8_different 59 = .ok (.invokevirtual 303, 3) := by decide +kernel
theorem dX8_different_62 : decode cX8_different 62 = .ok (.ifCond .eq 5, 3) := by decide +kernel
theorem dX8_different_65 : decode cX8_different 65 = .ok (.iconst 0, 1) := by decide +kernel
theorem dX8_different_66 : decode cX8_different 66 = .ok (.istore_n 3, 1) := by decide +kernel
theorem dX8_different_67 : decode cX8_different 67 = .ok (.iinc 4 1, 3) := by decide +kernel
theorem dX8_different_70 : decode cX8_different 70 = .ok (.goto (-35), 3) := by decide +kernel
theorem dX8_different_73 : decode cX8_different 73 = .ok (.iload_n 3, 1) := by decide +kernel
theorem dX8_different_74 : decode cX8_different 74 = .ok (.ifCond .eq 6, 3) := by decide +kernel
theorem dX8_different_77 : decode cX8_different 77 = .ok (.iinc 1 1, 3) := by decide +kernel
theorem dX8_different_80 : decode cX8_different 80 = .ok (.iinc 2 1, 3) := by decide +kernel
theorem dX8_different_83 : decode cX8_different 83 = .ok (.goto (-74), 3) := by decide +kernel
theorem dX8_different_86 : decode cX8_different 86 = .ok (.iload_n 1, 1) := by decide +kernel
theorem dX8_different_87 : decode cX8_different 87 = .ok (.ireturn, 1) := by decide +kernel
set_option maxRecDepth 20000 in
theorem ggX8_often_X8_isToken : GoodIn wsX8_often wsX8_isToken := goodIn_r _ [8, 2, 15, 16, 17, 18, 19, 20, 21, 22, 23, 24, 25, 26, 27, 28, 29, 30, 31, 32, 33, 34, 35, 36, 37, 38, 39, 40] (by decide +kernel) (by decide +kernel)
set_option maxRecDepth 20000 in
theorem gX8_often_X8_isToken : GoodIn wsX8_often (wsV RX8 300 RX8 yX8_isToken wsX8_isToken) := goodIn_app (goodIn_of _ (by decide +kernel)) ggX8_often_X8_isToken
set_option maxRecDepth 20000 in
theorem ggX8_often_X8_sameStem : GoodIn wsX8_often wsX8_sameStem := goodIn_r _ [12, 13, 14, 15, 16, 17, 18, 19, 20, 21, 22, 23, 24, 25, 26, 27, 28, 29, 30, 31, 32, 33, 34, 35, 36, 37, 38, 39, 40] (by decide +kernel) (by decide +kernel)
set_option maxRecDepth 20000 in
theorem gX8_often_X8_sameStem : GoodIn wsX8_often (wsV RX8 303 RX8 yX8_sameStem wsX8_sameStem) := goodIn_app (goodIn_of _ (by decide +kernel)) ggX8_often_X8_sameStem
theorem dX8_often_0 : decode cX8_often 0 = .ok (.aload_n 0, 1) := by decide +kernel
theorem dX8_often_1 : decode cX8_often 1 = .ok (.iconst 0, 1) := by decide +kernel
theorem dX8_often_2 : decode cX8_often 2 = .ok (.putfield 60, 3) := by decide +kernel
theorem dX8_often_5 : decode cX8_often 5 = .ok (.iconst 0, 1) := by decide +kernel
theorem dX8_often_6 : decode cX8_often 6 = .ok (.istore_n 2, 1) := by decide +kernel
theorem dX8_often_7 : decode cX8_often 7 = .ok (.iconst 0, 1) := by decide +kernel
theorem dX8_often_8 : decode cX8_often 8 = .ok (.istore_n 3, 1) := by decide +kernel
theorem dX8_often_9 : decode cX8_often 9 = .ok (.iload_n 3, 1) := by decide +kernel
theorem dX8_often_10 : decode cX8_often 10 = .ok (.aload_n 0, 1) := by decide +kernel
theorem dX8_often_11 : decode cX8_often 11 = .ok (.getfield 268, 3) := by decide +kernel
theorem dX8_often_14 : decode cX8_often 14 = .ok (.if_icmp .ge 38, 3) := by decide +kernel
theorem dX8_often_17 : decode cX8_often 17 = .ok (.aload_n 0, 1) := by decide +kernel
theorem dX8_often_18 : decode cX8_often 18 = .ok (.iload_n 1, 1) := by decide +kernel
theorem dX8_often_19 : decode cX8_often 19 = .ok (.invokevirtual 300, 3) := by decide +kernel
theorem dX8_often_22 : decode cX8_often 22 = .ok (.ifCond .eq 30, 3) := by decide +kernel
theorem dX8_often_25 : decode cX8_often 25 = .ok (.aload_n 0, 1) := by decide +kernel
theorem dX8_often_26 : decode cX8_often 26 = .ok (.getfield 47, 3) := by decide +kernel
theorem dX8_often_29 : decode cX8_often 29 = .ok (.iload_n 3, 1) := by decide +kernel
theorem dX8_often_30 : decode cX8_often 30 = .ok (.baload, 1) := by decide +kernel
theorem dX8_often_31 : decode cX8_often 31 = .ok (.ifCond .ne 15, 3) := by decide +kernel
theorem dX8_often_34 : decode cX8_often 34 = .ok (.aload_n 0, 1) := by decide +kernel
theorem dX8_often_35 : decode cX8_often 35 = .ok (.iload_n 3, 1) := by decide +kernel
theorem dX8_often_36 : decode cX8_often 36 = .ok (.iload_n 1, 1) := by decide +kernel
theorem dX8_often_37 : decode cX8_often 37 = .ok (.invokevirtual 303, 3) := by decide +kernel
theorem dX8_often_40 : decode cX8_often 40 = .ok (.ifCond .eq 6, 3) := by decide +kernel
theorem dX8_often_43 : decode cX8_often 43 = .ok (.iinc 2 1, 3) := by decide +kernel
theorem dX8_often_46 : decode cX8_often 46 = .ok (.iinc 3 1, 3) := by decide +kernel
theorem dX8_often_49 : decode cX8_often 49 = .ok (.goto (-40), 3) := by decide +kernel
theorem dX8_often_52 : decode cX8_often 52 = .ok (.iload_n 2, 1) := by decide +kernel
theorem dX8_often_53 : decode cX8_often 53 = .ok (.ireturn, 1) := by decide +kernel
set_option maxRecDepth 20000 in
theorem ggX8_isVowel_X8_isVowelAhead : GoodIn wsX8_isVowel wsX8_isVowelAhead := goodIn_r _ [6, 1, 7, 8, 9, 10, 11, 12, 13, 14, 15, 16, 17, 18, 19, 20, 21, 22, 23, 24, 25, 26, 27, 28, 29, 30, 31, 32] (by decide +kernel) (by decide +kernel)
set_option maxRecDepth 20000 in
theorem gX8_isVowel_X8_isVowelAhead : GoodIn wsX8_isVowel (wsV RX8 306 RX8 yX8_isVowelAhead wsX8_isVowelAhead) := goodIn_app (goodIn_of _ (by decide +kernel)) ggX8_isVowel_X8_isVowelAhead
theorem dX8_isVowel_0 : decode cX8_isVowel 0 = .ok (.aload_n 0, 1) := by decide +kernel
theorem dX8_isVowel_1 : decode cX8_isVowel 1 = .ok (.getfield 57, 3) := by decide +kernel
theorem dX8_isVowel_4 : decode cX8_isVowel 4 = .ok (.iload_n 1, 1) := by decide +kernel
theorem dX8_isVowel_5 : decode cX8_isVowel 5 = .ok (.iaload, 1) := by decide +kernel
theorem dX8_isVowel_6 : decode cX8_isVowel 6 = .ok (.istore_n 2, 1) := by decide +kernel
theorem dX8_isVowel_7 : decode cX8_isVowel 7 = .ok (.iload_n 2, 1) := by decide +kernel
theorem dX8_isVowel_8 : decode cX8_isVowel 8 = .ok (.bipush 121, 2) := by decide +kernel
theorem dX8_isVowel_10 : decode cX8_isVowel 10 = .ok (.if_icmp .ne 23, 3) := by decide +kernel
theorem dX8_isVowel_13 : decode cX8_isVowel 13 = .ok (.iload_n 1, 1) := by decide +kernel
theorem dX8_isVowel_14 : decode cX8_isVowel 14 = .ok (.ifCond .le 17, 3) := by decide +kernel
theorem dX8_isVowel_17 : decode cX8_isVowel 17 = .ok (.aload_n 0, 1) := by decide +kernel
theorem dX8_isVowel_18 : decode cX8_isVowel 18 = .ok (.iload_n 1, 1) := by decide +kernel
theorem dX8_isVowel_19 : decode cX8_isVowel 19 = .ok (.iconst 1, 1) := by decide +kernel
theorem dX8_isVowel_20 : decode cX8_isVowel 20 = .ok (.isub, 1) := by decide +kernel
theorem dX8_isVowel_21 : decode cX8_isVowel 21 = .ok (.invokevirtual 306, 3) := by decide +kernel
theorem dX8_isVowel_24 : decode cX8_isVowel 24 = .ok (.ifCond .ne 7, 3) := by decide +kernel
theorem dX8_isVowel_27 : decode cX8_isVowel 27 = .ok (.iconst 1, 1) := by decide +kernel
theorem dX8_isVowel_28 : decode cX8_isVowel 28 = .ok (.goto 4, 3) := by decide +kernel
theorem dX8_isVowel_31 : decode cX8_isVowel 31 = .ok (.iconst 0, 1) := by decide +kernel
theorem dX8_isVowel_32 : decode cX8_isVowel 32 = .ok (.ireturn, 1) := by decide +kernel
theorem dX8_isVowel_33 : decode cX8_isVowel 33 = .ok (.iload_n 2, 1) := by decide +kernel
theorem dX8_isVowel_34 : decode cX8_isVowel 34 = .ok (.bipush 97, 2) := by decide +kernel
theorem dX8_isVowel_36 : decode cX8_isVowel 36 = .ok (.if_icmp .eq 27, 3) := by decide +kernel
theorem dX8_isVowel_39 : decode cX8_isVowel 39 = .ok (.iload_n 2, 1) := by decide +kernel
theorem dX8_isVowel_40 : decode cX8_isVowel 40 = .ok (.bipush 101, 2) := by decide +kernel
theorem dX8_isVowel_42 : decode cX8_isVowel 42 = .ok (.if_icmp .eq 21, 3) := by decide +kernel
theorem dX8_isVowel_45 : decode cX8_isVowel 45 = .ok (.iload_n 2, 1) := by decide +kernel
theorem dX8_isVowel_46 : decode cX8_isVowel 46 = .ok (.bipush 105, 2) := by decide +kernel
theorem dX8_isVowel_48 : decode cX8_isVowel 48 = .ok (.if_icmp .eq 15, 3) := by decide +kernel
theorem dX8_isVowel_51 : decode cX8_isVowel 51 = .ok (.iload_n 2, 1) := by decide +kernel
theorem dX8_isVowel_52 : decode cX8_isVowel 52 = .ok (.bipush 111, 2) := by decide +kernel
theorem dX8_isVowel_54 : decode cX8_isVowel 54 = .ok (.if_icmp .eq 9, 3) := by decide +kernel
theorem dX8_isVowel_57 : decode cX8_isVowel 57 = .ok (.iload_n 2, 1) := by decide +kernel
theorem dX8_isVowel_58 : decode cX8_isVowel 58 = .ok (.bipush 117, 2) := by decide +kernel
theorem dX8_isVowel_60 : decode cX8_isVowel 60 = .ok (.if_icmp .ne 7, 3) := by decide +kernel
theorem dX8_isVowel_63 : decode cX8_isVowel 63 = .ok (.iconst 1, 1) := by decide +kernel
theorem dX8_isVowel_64 : decode cX8_isVowel 64 = .ok (.goto 4, 3) := by decide +kernel
theorem dX8_isVowel_67 : decode cX8_isVowel 67 = .ok (.iconst 0, 1) := by decide +kernel
theorem dX8_isVowel_68 : decode cX8_isVowel 68 = .ok (.ireturn, 1) := by decide +kernel
theorem dX8_isVowelAhead_0 : decode cX8_isVowelAhead 0 = .ok (.iload_n 1, 1) := by decide +kernel
theorem dX8_isVowelAhead_1 : decode cX8_isVowelAhead 1 = .ok (.istore_n 2, 1) := by decide +kernel
theorem dX8_isVowelAhead_2 : decode cX8_isVowelAhead 2 = .ok (.iload_n 2, 1) := by decide +kernel
theorem dX8_isVowelAhead_3 : decode cX8_isVowelAhead 3 = .ok (.ifCond .lt 20, 3) := by decide +kernel
theorem dX8_isVowelAhead_6 : decode cX8_isVowelAhead 6 = .ok (.aload_n 0, 1) := by decide +kernel
theorem dX8_isVowelAhead_7 : decode cX8_isVowelAhead 7 = .ok (.getfield 57, 3) := by decide +kernel
theorem dX8_isVowelAhead_10 : decode cX8_isVowelAhead 10 = .ok (.iload_n 2, 1) := by decide +kernel
theorem dX8_isVowelAhead_11 : decode cX8_isVowelAhead 11 = .ok (.iaload, 1) := by decide +kernel
theorem dX8_isVowelAhead_12 : decode cX8_isVowelAhead 12 = .ok (.bipush 121, 2) := by decide +kernel
theorem dX8_isVowelAhead_14 : decode cX8_isVowelAhead 14 = .ok (.if_icmp .ne 9, 3) := by decide +kernel
theorem dX8_isVowelAhead_17 : decode cX8_isVowelAhead 17 = .ok (.iinc 2 (-1), 3) := by decide +kernel
theorem dX8_isVowelAhead_20 : decode cX8_isVowelAhead 20 = .ok (.goto (-18), 3) := by decide +kernel
theorem dX8_isVowelAhead_23 : decode cX8_isVowelAhead 23 = .ok (.iload_n 2, 1) := by decide +kernel
theorem dX8_isVowelAhead_24 : decode cX8_isVowelAhead 24 = .ok (.ifCond .lt 62, 3) := by decide +kernel
theorem dX8_isVowelAhead_27 : decode cX8_isVowelAhead 27 = .ok (.aload_n 0, 1) := by decide +kernel
theorem dX8_isVowelAhead_28 : decode cX8_isVowelAhead 28 = .ok (.getfield 57, 3) := by decide +kernel
theorem dX8_isVowelAhead_31 : decode cX8_isVowelAhead 31 = .ok (.iload_n 2, 1) := by decide +kernel
theorem dX8_isVowelAhead_32 : decode cX8_isVowelAhead 32 = .ok (.iaload, 1) := by decide +kernel
theorem dX8_isVowelAhead_33 : decode cX8_isVowelAhead 33 = .ok (.bipush 97, 2) := by decide +kernel
theorem dX8_isVowelAhead_35 : decode cX8_isVowelAhead 35 = .ok (.if_icmp .eq 47, 3) := by decide +kernel
theorem dX8_isVowelAhead_38 : decode cX8_isVowelAhead 38 = .ok (.aload_n 0, 1) := by decide +kernel
theorem dX8_isVowelAhead_39 : decode cX8_isVowelAhead 39 = .ok (.getfield 57, 3) := by decide +kernel
theorem dX8_isVowelAhead_42 : decode cX8_isVowelAhead 42 = .ok (.iload_n 2, 1) := by decide +kernel
theorem dX8_isVowelAhead_43 : decode cX8_isVowelAhead 43 = .ok (.iaload, 1) := by decide +kernel
theorem dX8_isVowelAhead_44 : decode cX8_isVowelAhead 44 = .ok (.bipush 101, 2) := by decide +kernel
theorem dX8_isVowelAhead_46 : decode cX8_isVowelAhead 46 = .ok (.if_icmp .eq 36, 3) := by decide +kernel
theorem dX8_isVowelAhead_49 : decode cX8_isVowelAhead 49 = .ok (.aload_n 0, 1) := by decide +kernel
theorem dX8_isVowelAhead_50 : decode cX8_isVowelAhead 50 = .ok (.getfield 57, 3) := by decide +kernel
theorem dX8_isVowelAhead_53 : decode cX8_isVowelAhead 53 = .ok (.iload_n 2, 1) := by decide +kernel
theorem dX8_isVowelAhead_54 : decode cX8_isVowelAhead 54 = .ok (.iaload, 1) := by decide +kernel
theorem dX8_isVowelAhead_55 : decode cX8_isVowelAhead 55 = .ok (.bipush 105, 2) := by decide +kernel
theorem dX8_isVowelAhead_57 : decode cX8_isVowelAhead 57 = .ok (.if_icmp .eq 25, 3) := by decide +kernel
theorem dX8_isVowelAhead_60 : decode cX8_isVowelAhead 60 = .ok (.aload_n 0, 1) := by decide +kernel
theorem dX8_isVowelAhead_61 : decode cX8_isVowelAhead 61 = .ok (.getfield 57, 3) := by decide +kernel
theorem dX8_isVowelAhead_64 : decode cX8_isVowelAhead 64 = .ok (.iload_n 2, 1) := by decide +kernel
theorem dX8_isVowelAhead_65 : decode cX8_isVowelAhead 65 = .ok (.iaload, 1) := by decide +kernel
theorem dX8_isVowelAhead_66 : decode cX8_isVowelAhead 66 = .ok (.bipush 111, 2) := by decide +kernel
theorem dX8_isVowelAhead_68 : decode cX8_isVowelAhead 68 = .ok (.if_icmp .eq 14, 3) := by decide +kernel
theorem dX8_isVowelAhead_71 : decode cX8_isVowelAhead 71 = .ok (.aload_n 0, 1) := by decide +kernel
theorem dX8_isVowelAhead_72 : decode cX8_isVowelAhead 72 = .ok (.getfield 57, 3) := by decide +kernel
theorem dX8_isVowelAhead_75 : decode cX8_isVowelAhead 75 = .ok (.iload_n 2, 1) := by decide +kernel
theorem dX8_isVowelAhead_76 : decode cX8_isVowelAhead 76 = .ok (.iaload, 1) := by decide +kernel
theorem dX8_isVowelAhead_77 : decode cX8_isVowelAhead 77 = .ok (.bipush 117, 2) := by decide +kernel
theorem dX8_isVowelAhead_79 : decode cX8_isVowelAhead 79 = .ok (.if_icmp .ne 7, 3) := by decide +kernel
theorem dX8_isVowelAhead_82 : decode cX8_isVowelAhead 82 = .ok (.iconst 1, 1) := by decide +kernel
theorem dX8_isVowelAhead_83 : decode cX8_isVowelAhead 83 = .ok (.goto 4, 3) := by decide +kernel
theorem dX8_isVowelAhead_86 : decode cX8_isVowelAhead 86 = .ok (.iconst 0, 1) := by decide +kernel
theorem dX8_isVowelAhead_87 : decode cX8_isVowelAhead 87 = .ok (.istore_n 3, 1) := by decide +kernel
theorem dX8_isVowelAhead_88 : decode cX8_isVowelAhead 88 = .ok (.iload_n 2, 1) := by decide +kernel
theorem dX8_isVowelAhead_89 : decode cX8_isVowelAhead 89 = .ok (.ifCond .ge 7, 3) := by decide +kernel
theorem dX8_isVowelAhead_92 : decode cX8_isVowelAhead 92 = .ok (.iconst 0, 1) := by decide +kernel
theorem dX8_isVowelAhead_93 : decode cX8_isVowelAhead 93 = .ok (.istore_n 3, 1) := by decide +kernel
theorem dX8_isVowelAhead_94 : decode cX8_isVowelAhead 94 = .ok (.iconst 0, 1) := by decide +kernel
theorem dX8_isVowelAhead_95 : decode cX8_isVowelAhead 95 = .ok (.istore_n 2, 1) := by decide +kernel
theorem dX8_isVowelAhead_96 : decode cX8_isVowelAhead 96 = .ok (.iload_n 2, 1) := by decide +kernel
theorem dX8_isVowelAhead_97 : decode cX8_isVowelAhead 97 = .ok (.iconst 1, 1) := by decide +kernel
theorem dX8_isVowelAhead_98 : decode cX8_isVowelAhead 98 = .ok (.iadd, 1) := by decide +kernel
theorem dX8_isVowelAhead_99 : decode cX8_isVowelAhead 99 = .ok (.istore 4, 2) := by decide +kernel
theorem dX8_isVowelAhead_101 : decode cX8_isVowelAhead 101 = .ok (.iload 4, 2) := by decide +kernel
theorem dX8_isVowelAhead_103 : decode cX8_isVowelAhead 103 = .ok (.iload_n 1, 1) := by decide +kernel
theorem dX8_isVowelAhead_104 : decode cX8_isVowelAhead 104 = .ok (.if_icmp .gt 19, 3) := by decide +kernel
theorem dX8_isVowelAhead_107 : decode cX8_isVowelAhead 107 = .ok (.iload_n 3, 1) := by decide +kernel
theorem dX8_isVowelAhead_108 : decode cX8_isVowelAhead 108 = .ok (.ifCond .ne 7, 3) := by decide +kernel
theorem dX8_isVowelAhead_111 : decode cX8_isVowelAhead 111 = .ok (.iconst 1, 1) := by decide +kernel
theorem dX8_isVowelAhead_112 : decode cX8_isVowelAhead 112 = .ok (.goto 4, 3) := by decide +kernel
theorem dX8_isVowelAhead_115 : decode cX8_isVowelAhead 115 = .ok (.iconst 0, 1) := by decide +kernel
theorem dX8_isVowelAhead_116 : decode cX8_isVowelAhead 116 = .ok (.istore_n 3, 1) := by decide +kernel
theorem dX8_isVowelAhead_117 : decode cX8_isVowelAhead 117 = .ok (.iinc 4 1, 3) := by decide +kernel
theorem dX8_isVowelAhead_120 : decode cX8_isVowelAhead 120 = .ok (.goto (-19), 3) := by decide +kernel
theorem dX8_isVowelAhead_123 : decode cX8_isVowelAhead 123 = .ok (.iload_n 3, 1) := by decide +kernel
theorem dX8_isVowelAhead_124 : decode cX8_isVowelAhead 124 = .ok (.ireturn, 1) := by decide +kernel
set_option maxRecDepth 20000 in
theorem ggX8_measure_X8_isVowel : GoodIn wsX8_measure wsX8_isVowel := goodIn_r _ [5, 6, 7, 8, 9, 4, 10, 11, 12, 13, 14, 15, 16, 17, 18, 19, 20, 21, 22, 23, 24, 25, 26, 27, 28, 29, 30, 31, 32, 33, 34, 35, 36] (by decide +kernel) (by decide +kernel)
set_option maxRecDepth 20000 in
theorem gX8_measure_X8_isVowel : GoodIn wsX8_measure (wsV RX8 309 RX8 yX8_isVowel wsX8_isVowel) := goodIn_app (goodIn_of _ (by decide +kernel)) ggX8_measure_X8_isVowel
theorem dX8_measure_0 : decode cX8_measure 0 = .ok (.iconst 0, 1) := by decide +kernel
theorem dX8_measure_1 : decode cX8_measure 1 = .ok (.istore_n 2, 1) := by decide +kernel
theorem dX8_measure_2 : decode cX8_measure 2 = .ok (.iconst 1, 1) := by decide +kernel
theorem dX8_measure_3 : decode cX8_measure 3 = .ok (.istore_n 3, 1) := by decide +kernel
theorem dX8_measure_4 : decode cX8_measure 4 = .ok (.iload_n 3, 1) := by decide +kernel
theorem dX8_measure_5 : decode cX8_measure 5 = .ok (.iload_n 1, 1) := by decide +kernel
theorem dX8_measure_6 : decode cX8_measure 6 = .ok (.if_icmp .ge 30, 3) := by decide +kernel
theorem dX8_measure_9 : decode cX8_measure 9 = .ok (.aload_n 0, 1) := by decide +kernel
theorem dX8_measure_10 : decode cX8_measure 10 = .ok (.iload_n 3, 1) := by decide +kernel
theorem dX8_measure_11 : decode cX8_measure 11 = .ok (.iconst 1, 1) := by decide +kernel
theorem dX8_measure_12 : decode cX8_measure 12 = .ok (.isub, 1) := by decide +kernel
theorem dX8_measure_13 : decode cX8_measure 13 = .ok (.invokevirtual 309, 3) := by decide +kernel
theorem dX8_measure_16 : decode cX8_measure 16 = .ok (.ifCond .eq 14, 3) := by decide +kernel
theorem dX8_measure_19 : decode cX8_measure 19 = .ok (.aload_n 0, 1) := by decide +kernel
theorem dX8_measure_20 : decode cX8_measure 20 = .ok (.iload_n 3, 1) := by decide +kernel
theorem dX8_measure_21 : decode cX8_measure 21 = .ok (.invokevirtual 309, 3) := by decide +kernel
theorem dX8_measure_24 : decode cX8_measure 24 = .ok (.ifCond .ne 6, 3) := by decide +kernel
theorem dX8_measure_27 : decode cX8_measure 27 = .ok (.iinc 2 1, 3) := by decide +kernel
theorem dX8_measure_30 : decode cX8_measure 30 = .ok (.iinc 3 1, 3) := by decide +kernel
theorem dX8_measure_33 : decode cX8_measure 33 = .ok (.goto (-29), 3) := by decide +kernel
theorem dX8_measure_36 : decode cX8_measure 36 = .ok (.iload_n 2, 1) := by decide +kernel
theorem dX8_measure_37 : decode cX8_measure 37 = .ok (.ireturn, 1) := by decide +kernel
set_option maxRecDepth 20000 in
theorem ggX8_hasVowel_X8_isVowel : GoodIn wsX8_hasVowel wsX8_isVowel := goodIn_r _ [5, 6, 7, 8, 9, 4, 10, 11, 12, 13, 14, 15, 16, 17, 18, 19, 20, 21, 22, 23, 24, 25, 26, 27, 28, 29, 30, 31, 32, 33, 34, 35, 36] (by decide +kernel) (by decide +kernel)
set_option maxRecDepth 20000 in
theorem gX8_hasVowel_X8_isVowel : GoodIn wsX8_hasVowel (wsV RX8 309 RX8 yX8_isVowel wsX8_isVowel) := goodIn_app (goodIn_of _ (by decide +kernel)) ggX8_hasVowel_X8_isVowel
theorem dX8_hasVowel_0 : decode cX8_hasVowel 0 = .ok (.iconst 0, 1) := by decide +kernel
theorem dX8_hasVowel_1 : decode cX8_hasVowel 1 = .ok (.istore_n 2, 1) := by decide +kernel
theorem dX8_hasVowel_2 : decode cX8_hasVowel 2 = .ok (.iload_n 2, 1) := by decide +kernel
theorem dX8_hasVowel_3 : decode cX8_hasVowel 3 = .ok (.iload_n 1, 1) := by decide +kernel
theorem dX8_hasVowel_4 : decode cX8_hasVowel 4 = .ok (.if_icmp .ge 19, 3) := by decide +kernel
theorem dX8_hasVowel_7 : decode cX8_hasVowel 7 = .ok (.aload_n 0, 1) := by decide +kernel
theorem dX8_hasVowel_8 : decode cX8_hasVowel 8 = .ok (.iload_n 2, 1) := by decide +kernel
theorem dX8_hasVowel_9 : decode cX8_hasVowel 9 = .ok (.invokevirtual 309, 3) := by decide +kernel
theorem dX8_hasVowel_12 : decode cX8_hasVowel 12 = .ok (.ifCond .eq 5, 3) := by decide +kernel
theorem dX8_hasVowel_15 : decode cX8_hasVowel 15 = .ok (.iconst 1, 1) := by decide +kernel
theorem dX8_hasVowel_16 : decode cX8_hasVowel 16 = .ok (.ireturn, 1) := by decide +kernel
theorem dX8_hasVowel_17 : decode cX8_hasVowel 17 = .ok (.iinc 2 1, 3) := by decide +kernel
theorem dX8_hasVowel_20 : decode cX8_hasVowel 20 = .ok (.goto (-18), 3) := by decide +kernel
theorem dX8_hasVowel_23 : decode cX8_hasVowel 23 = .ok (.iconst 0, 1) := by decide +kernel
theorem dX8_hasVowel_24 : decode cX8_hasVowel 24 = .ok (.ireturn, 1) := by decide +kernel
set_option maxRecDepth 20000 in
theorem ggX8_cvc_X8_isVowel : GoodIn wsX8_cvc wsX8_isVowel := goodIn_r _ [6, 1, 7, 8, 9, 5, 10, 11, 12, 13, 14, 15, 16, 17, 18, 19, 20, 21, 22, 23, 24, 25, 26, 27, 28, 29, 30, 31, 32, 33, 34, 35, 36] (by decide +kernel) (by decide +kernel)
set_option maxRecDepth 20000 in
theorem gX8_cvc_X8_isVowel : GoodIn wsX8_cvc (wsV RX8 309 RX8 yX8_isVowel wsX8_isVowel) := goodIn_app (goodIn_of _ (by decide +kernel)) ggX8_cvc_X8_isVowel
theorem dX8_cvc_0 : decode cX8_cvc 0 = .ok (.iload_n 1, 1) := by decide +kernel
theorem dX8_cvc_1 : decode cX8_cvc 1 = .ok (.iconst 3, 1) := by decide +kernel
theorem dX8_cvc_2 : decode cX8_cvc 2 = .ok (.if_icmp .lt 33, 3) := by decide +kernel
theorem dX8_cvc_5 : decode cX8_cvc 5 = .ok (.aload_n 0, 1) := by decide +kernel
theorem dX8_cvc_6 : decode cX8_cvc 6 = .ok (.iload_n 1, 1) := by decide +kernel
theorem dX8_cvc_7 : decode cX8_cvc 7 = .ok (.iconst 3, 1) := by decide +kernel
theorem dX8_cvc_8 : decode cX8_cvc 8 = .ok (.isub, 1) := by decide +kernel
theorem dX8_cvc_9 : decode cX8_cvc 9 = .ok (.invokevirtual 309, 3) := by decide +kernel
theorem dX8_cvc_12 : decode cX8_cvc 12 = .ok (.ifCond .ne 23, 3) := by decide +kernel
theorem dX8_cvc_15 : decode cX8_cvc 15 = .ok (.aload_n 0, 1) := by decide +kernel
theorem dX8_cvc_16 : decode cX8_cvc 16 = .ok (.iload_n 1, 1) := by decide +kernel
theorem dX8_cvc_17 : decode cX8_cvc 17 = .ok (.iconst 2, 1) := by decide +kernel
theorem dX8_cvc_18 : decode cX8_cvc 18 = .ok (.isub, 1) := by decide +kernel
theorem dX8_cvc_19 : decode cX8_cvc 19 = .ok (.invokevirtual 309, 3) := by decide +kernel
theorem dX8_cvc_22 : decode cX8_cvc 22 = .ok (.ifCond .eq 13, 3) := by decide +kernel
theorem dX8_cvc_25 : decode cX8_cvc 25 = .ok (.aload_n 0, 1) := by decide +kernel
theorem dX8_cvc_26 : decode cX8_cvc 26 = .ok (.iload_n 1, 1) := by decide +kernel
theorem dX8_cvc_27 : decode cX8_cvc 27 = .ok (.iconst 1, 1) := by decide +kernel
theorem dX8_cvc_28 : decode cX8_cvc 28 = .ok (.isub, 1) := by decide +kernel
theorem dX8_cvc_29 : decode cX8_cvc 29 = .ok (.invokevirtual 309, 3) := by decide +kernel
theorem dX8_cvc_32 : decode cX8_cvc 32 = .ok (.ifCond .eq 5, 3) := by decide +kernel
theorem dX8_cvc_35 : decode cX8_cvc 35 = .ok (.iconst 0, 1) := by decide +kernel
theorem dX8_cvc_36 : decode cX8_cvc 36 = .ok (.ireturn, 1) := by decide +kernel
theorem dX8_cvc_37 : decode cX8_cvc 37 = .ok (.aload_n 0, 1) := by decide +kernel
theorem dX8_cvc_38 : decode cX8_cvc 38 = .ok (.getfield 57, 3) := by decide +kernel
theorem dX8_cvc_41 : decode cX8_cvc 41 = .ok (.iload_n 1, 1) := by decide +kernel
theorem dX8_cvc_42 : decode cX8_cvc 42 = .ok (.iconst 1, 1) := by decide +kernel
theorem dX8_cvc_43 : decode cX8_cvc 43 = .ok (.isub, 1) := by decide +kernel
theorem dX8_cvc_44 : decode cX8_cvc 44 = .ok (.iaload, 1) := by decide +kernel
theorem dX8_cvc_45 : decode cX8_cvc 45 = .ok (.bipush 119, 2) := by decide +kernel
theorem dX8_cvc_47 : decode cX8_cvc 47 = .ok (.if_icmp .eq 33, 3) := by decide +kernel
theorem dX8_cvc_50 : decode cX8_cvc 50 = .ok (.aload_n 0, 1) := by decide +kernel
theorem dX8_cvc_51 : decode cX8_cvc 51 = .ok (.getfield 57, 3) := by decide +kernel
theorem dX8_cvc_54 : decode cX8_cvc 54 = .ok (.iload_n 1, 1) := by decide +kernel
theorem dX8_cvc_55 : decode cX8_cvc 55 = .ok (.iconst 1, 1) := by decide +kernel
theorem dX8_cvc_56 : decode cX8_cvc 56 = .ok (.isub, 1) := by decide +kernel
theorem dX8_cvc_57 : decode cX8_cvc 57 = .ok (.iaload, 1) := by decide +kernel
theorem dX8_cvc_58 : decode cX8_cvc 58 = .ok (.bipush 120, 2) := by decide +kernel
theorem dX8_cvc_60 : decode cX8_cvc 60 = .ok (.if_icmp .eq 20, 3) := by decide +kernel
theorem dX8_cvc_63 : decode cX8_cvc 63 = .ok (.aload_n 0, 1) := by decide +kernel
theorem dX8_cvc_64 : decode cX8_cvc 64 = .ok (.getfield 57, 3) := by decide +kernel
theorem dX8_cvc_67 : decode cX8_cvc 67 = .ok (.iload_n 1, 1) := by decide +kernel
theorem dX8_cvc_68 : decode cX8_cvc 68 = .ok (.iconst 1, 1) := by decide +kernel
theorem dX8_cvc_69 : decode cX8_cvc 69 = .ok (.isub, 1) := by decide +kernel
theorem dX8_cvc_70 : decode cX8_cvc 70 = .ok (.iaload, 1) := by decide +kernel
theorem dX8_cvc_71 : decode cX8_cvc 71 = .ok (.bipush 121, 2) := by decide +kernel
theorem dX8_cvc_73 : decode cX8_cvc 73 = .ok (.if_icmp .eq 7, 3) := by decide +kernel
theorem dX8_cvc_76 : decode cX8_cvc 76 = .ok (.iconst 1, 1) := by decide +kernel
theorem dX8_cvc_77 : decode cX8_cvc 77 = .ok (.goto 4, 3) := by decide +kernel
theorem dX8_cvc_80 : decode cX8_cvc 80 = .ok (.iconst 0, 1) := by decide +kernel
theorem dX8_cvc_81 : decode cX8_cvc 81 = .ok (.ireturn, 1) := by decide +kernel
set_option maxRecDepth 20000 in
theorem ggX8_has_X8_lengthOf : GoodIn wsX8_has wsX8_lengthOf := goodIn_r _ [7] (by decide +kernel) (by decide +kernel)
set_option maxRecDepth 20000 in
theorem gX8_has_X8_lengthOf : GoodIn wsX8_has (va_wsS RX8 102 yX8_lengthOf wsX8_lengthOf) := goodIn_app (goodIn_of _ (by decide +kernel)) ggX8_has_X8_lengthOf
theorem dX8_has_0 : decode cX8_has 0 = .ok (.lload_n 1, 1) := by decide +kernel
theorem dX8_has_1 : decode cX8_has 1 = .ok (.invokestatic 102, 3) := by decide +kernel
theorem dX8_has_4 : decode cX8_has 4 = .ok (.istore_n 3, 1) := by decide +kernel
theorem dX8_has_5 : decode cX8_has 5 = .ok (.iload_n 3, 1) := by decide +kernel
theorem dX8_has_6 : decode cX8_has 6 = .ok (.aload_n 0, 1) := by decide +kernel
theorem dX8_has_7 : decode cX8_has 7 = .ok (.getfield 312, 3) := by decide +kernel
theorem dX8_has_10 : decode cX8_has 10 = .ok (.if_icmp .le 5, 3) := by decide +kernel
theorem dX8_has_13 : decode cX8_has 13 = .ok (.iconst 0, 1) := by decide +kernel
theorem dX8_has_14 : decode cX8_has 14 = .ok (.ireturn, 1) := by decide +kernel
theorem dX8_has_15 : decode cX8_has 15 = .ok (.iconst 0, 1) := by decide +kernel
theorem dX8_has_16 : decode cX8_has 16 = .ok (.istore 4, 2) := by decide +kernel
theorem dX8_has_18 : decode cX8_has 18 = .ok (.iload 4, 2) := by decide +kernel
theorem dX8_has_20 : decode cX8_has 20 = .ok (.iload_n 3, 1) := by decide +kernel
theorem dX8_has_21 : decode cX8_has 21 = .ok (.if_icmp .ge 44, 3) := by decide +kernel
theorem dX8_has_24 : decode cX8_has 24 = .ok (.aload_n 0, 1) := by decide +kernel
theorem dX8_has_25 : decode cX8_has 25 = .ok (.getfield 57, 3) := by decide +kernel
theorem dX8_has_28 : decode cX8_has 28 = .ok (.aload_n 0, 1) := by decide +kernel
theorem dX8_has_29 : decode cX8_has 29 = .ok (.getfield 312, 3) := by decide +kernel
theorem dX8_has_32 : decode cX8_has 32 = .ok (.iload_n 3, 1) := by decide +kernel
theorem dX8_has_33 : decode cX8_has 33 = .ok (.isub, 1) := by decide +kernel
theorem dX8_has_34 : decode cX8_has 34 = .ok (.iload 4, 2) := by decide +kernel
theorem dX8_has_36 : decode cX8_has 36 = .ok (.iadd, 1) := by decide +kernel
theorem dX8_has_37 : decode cX8_has 37 = .ok (.iaload, 1) := by decide +kernel
theorem dX8_has_38 : decode cX8_has 38 = .ok (.lload_n 1, 1) := by decide +kernel
theorem dX8_has_39 : decode cX8_has 39 = .ok (.bipush 8, 2) := by decide +kernel
theorem dX8_has_41 : decode cX8_has 41 = .ok (.iload_n 3, 1) := by decide +kernel
theorem dX8_has_42 : decode cX8_has 42 = .ok (.iconst 1, 1) := by decide +kernel
theorem dX8_has_43 : decode cX8_has 43 = .ok (.isub, 1) := by decide +kernel
theorem dX8_has_44 : decode cX8_has 44 = .ok (.iload 4, 2) := by decide +kernel
theorem dX8_has_46 : decode cX8_has 46 = .ok (.isub, 1) := by decide +kernel
theorem dX8_has_47 : decode cX8_has 47 = .ok (.imul, 1) := by decide +kernel
theorem dX8_has_48 : decode cX8_has 48 = .ok (.lushr, 1) := by decide +kernel
theorem dX8_has_49 : decode cX8_has 49 = .ok (.ldc2_w 113, 3) := by decide +kernel
theorem dX8_has_52 : decode cX8_has 52 = .ok (.land, 1) := by decide +kernel
theorem dX8_has_53 : decode cX8_has 53 = .ok (.l2i, 1) := by decide +kernel
theorem dX8_has_54 : decode cX8_has 54 = .ok (.if_icmp .eq 5, 3) := by decide +kernel
theorem dX8_has_57 : decode cX8_has 57 = .ok (.iconst 0, 1) := by decide +kernel
theorem dX8_has_58 : decode cX8_has 58 = .ok (.ireturn, 1) := by decide +kernel
theorem dX8_has_59 : decode cX8_has 59 = .ok (.iinc 4 1, 3) := by decide +kernel
theorem dX8_has_62 : decode cX8_has 62 = .ok (.goto (-44), 3) := by decide +kernel
theorem dX8_has_65 : decode cX8_has 65 = .ok (.iconst 1, 1) := by decide +kernel
theorem dX8_has_66 : decode cX8_has 66 = .ok (.ireturn, 1) := by decide +kernel
set_option maxRecDepth 20000 in
theorem ggX8_append_X8_lengthOf : GoodIn wsX8_append wsX8_lengthOf := goodIn_r _ [7] (by decide +kernel) (by decide +kernel)
set_option maxRecDepth 20000 in
theorem gX8_append_X8_lengthOf : GoodIn wsX8_append (va_wsS RX8 102 yX8_lengthOf wsX8_lengthOf) := goodIn_app (goodIn_of _ (by decide +kernel)) ggX8_append_X8_lengthOf
theorem dX8_append_0 : decode cX8_append 0 = .ok (.lload_n 1, 1) := by decide +kernel
theorem dX8_append_1 : decode cX8_append 1 = .ok (.invokestatic 102, 3) := by decide +kernel
theorem dX8_append_4 : decode cX8_append 4 = .ok (.istore_n 3, 1) := by decide +kernel
theorem dX8_append_5 : decode cX8_append 5 = .ok (.iconst 0, 1) := by decide +kernel
theorem dX8_append_6 : decode cX8_append 6 = .ok (.istore 4, 2) := by decide +kernel
theorem dX8_append_8 : decode cX8_append 8 = .ok (.iload 4, 2) := by decide +kernel
theorem dX8_append_10 : decode cX8_append 10 = .ok (.iload_n 3, 1) := by decide +kernel
theorem dX8_append_11 : decode cX8_append 11 = .ok (.if_icmp .ge 44, 3) := by decide +kernel
theorem dX8_append_14 : decode cX8_append 14 = .ok (.aload_n 0, 1) := by decide +kernel
theorem dX8_append_15 : decode cX8_append 15 = .ok (.getfield 57, 3) := by decide +kernel
theorem dX8_append_18 : decode cX8_append 18 = .ok (.aload_n 0, 1) := by decide +kernel
theorem dX8_append_19 : decode cX8_append 19 = .ok (.getfield 312, 3) := by decide +kernel
theorem dX8_append_22 : decode cX8_append 22 = .ok (.lload_n 1, 1) := by decide +kernel
theorem dX8_append_23 : decode cX8_append 23 = .ok (.bipush 8, 2) := by decide +kernel
theorem dX8_append_25 : decode cX8_append 25 = .ok (.iload_n 3, 1) := by decide +kernel
theorem dX8_append_26 : decode cX8_append 26 = .ok (.iconst 1, 1) := by decide +kernel
theorem dX8_append_27 : decode cX8_append 27 = .ok (.isub, 1) := by decide +kernel
theorem dX8_append_28 : decode cX8_append 28 = .ok (.iload 4, 2) := by decide +kernel
theorem dX8_append_30 : decode cX8_append 30 = .ok (.isub, 1) := by decide +kernel
theorem dX8_append_31 : decode cX8_append 31 = .ok (.imul, 1) := by decide +kernel
theorem dX8_append_32 : decode cX8_append 32 = .ok (.lushr, 1) := by decide +kernel
theorem dX8_append_33 : decode cX8_append 33 = .ok (.ldc2_w 113, 3) := by decide +kernel
theorem dX8_append_36 : decode cX8_append 36 = .ok (.land, 1) := by decide +kernel
theorem dX8_append_37 : decode cX8_append 37 = .ok (.l2i, 1) := by decide +kernel
theorem dX8_append_38 : decode cX8_append 38 = .ok (.iastore, 1) := by decide +kernel
theorem dX8_append_39 : decode cX8_append 39 = .ok (.aload_n 0, 1) := by decide +kernel
theorem dX8_append_40 : decode cX8_append 40 = .ok (.dup, 1) := by decide +kernel
theorem dX8_append_41 : decode cX8_append 41 = .ok (.getfield 312, 3) := by decide +kernel
theorem dX8_append_44 : decode cX8_append 44 = .ok (.iconst 1, 1) := by decide +kernel
theorem dX8_append_45 : decode cX8_append 45 = .ok (.iadd, 1) := by decide +kernel
theorem dX8_append_46 : decode cX8_append 46 = .ok (.putfield 312, 3) := by decide +kernel
theorem dX8_append_49 : decode cX8_append 49 = .ok (.iinc 4 1, 3) := by decide +kernel
theorem dX8_append_52 : decode cX8_append 52 = .ok (.goto (-44), 3) := by decide +kernel
theorem dX8_append_55 : decode cX8_append 55 = .ok (.return_, 1) := by decide +kernel
set_option maxRecDepth 20000 in
theorem ggX8_turns_X8_has : GoodIn wsX8_turns wsX8_has := goodIn_r _ [6, 1, 7, 8, 9, 10, 5, 11, 28, 29, 30, 31, 32, 33, 34, 35, 36, 37, 38, 39, 40, 41, 42, 43, 44, 45, 46, 47, 48, 49, 50, 51, 52, 53] (by decide +kernel) (by decide +kernel)
set_option maxRecDepth 20000 in
theorem gX8_turns_X8_has : GoodIn wsX8_turns (wsV RX8 315 RX8 yX8_has wsX8_has) := goodIn_app (goodIn_of _ (by decide +kernel)) ggX8_turns_X8_has
set_option maxRecDepth 20000 in
theorem ggX8_turns_X8_lengthOf : GoodIn wsX8_turns wsX8_lengthOf := goodIn_r _ [11] (by decide +kernel) (by decide +kernel)
set_option maxRecDepth 20000 in
theorem gX8_turns_X8_lengthOf : GoodIn wsX8_turns (va_wsS RX8 102 yX8_lengthOf wsX8_lengthOf) := goodIn_app (goodIn_of _ (by decide +kernel)) ggX8_turns_X8_lengthOf
set_option maxRecDepth 20000 in
theorem ggX8_turns_X8_measure : GoodIn wsX8_turns wsX8_measure := goodIn_r _ [15, 16, 17, 18, 5, 19, 7, 20, 21, 22, 23, 28, 29, 30, 31, 32, 33, 34, 35, 36, 37, 38, 39, 40, 41, 42, 43, 44, 45, 46, 47, 48, 49, 50, 51, 52, 53] (by decide +kernel) (by decide +kernel)
set_option maxRecDepth 20000 in
theorem gX8_turns_X8_measure : GoodIn wsX8_turns (wsV RX8 318 RX8 yX8_measure wsX8_measure) := goodIn_app (goodIn_of _ (by decide +kernel)) ggX8_turns_X8_measure
set_option maxRecDepth 20000 in
theorem ggX8_turns_X8_append : GoodIn wsX8_turns wsX8_append := goodIn_r _ [27, 7, 1, 8, 9, 10, 5, 11, 28, 29, 30, 31, 32, 33, 34, 35, 36, 37, 38, 39, 40, 41, 42, 43, 44, 45, 46, 47, 48, 49, 50, 51, 52, 53] (by decide +kernel) (by decide +kernel)
set_option maxRecDepth 20000 in
theorem gX8_turns_X8_append : GoodIn wsX8_turns (wsV RX8 321 RX8 yX8_append wsX8_append) := goodIn_app (goodIn_of _ (by decide +kernel)) ggX8_turns_X8_append
theorem dX8_turns_0 : decode cX8_turns 0 = .ok (.aload_n 0, 1) := by decide +kernel
theorem dX8_turns_1 : decode cX8_turns 1 = .ok (.lload_n 1, 1) := by decide +kernel
theorem dX8_turns_2 : decode cX8_turns 2 = .ok (.invokevirtual 315, 3) := by decide +kernel
theorem dX8_turns_5 : decode cX8_turns 5 = .ok (.ifCond .ne 5, 3) := by decide +kernel
theorem dX8_turns_8 : decode cX8_turns 8 = .ok (.iconst 0, 1) := by decide +kernel
theorem dX8_turns_9 : decode cX8_turns 9 = .ok (.ireturn, 1) := by decide +kernel
theorem dX8_turns_10 : decode cX8_turns 10 = .ok (.aload_n 0, 1) := by decide +kernel
theorem dX8_turns_11 : decode cX8_turns 11 = .ok (.getfield 312, 3) := by decide +kernel
theorem dX8_turns_14 : decode cX8_turns 14 = .ok (.lload_n 1, 1) := by decide +kernel
theorem dX8_turns_15 : decode cX8_turns 15 = .ok (.invokestatic 102, 3) := by decide +kernel
theorem dX8_turns_18 : decode cX8_turns 18 = .ok (.isub, 1) := by decide +kernel
theorem dX8_turns_19 : decode cX8_turns 19 = .ok (.istore 6, 2) := by decide +kernel
theorem dX8_turns_21 : decode cX8_turns 21 = .ok (.aload_n 0, 1) := by decide +kernel
theorem dX8_turns_22 : decode cX8_turns 22 = .ok (.iload 6, 2) := by decide +kernel
theorem dX8_turns_24 : decode cX8_turns 24 = .ok (.invokevirtual 318, 3) := by decide +kernel
theorem dX8_turns_27 : decode cX8_turns 27 = .ok (.iload 5, 2) := by decide +kernel
theorem dX8_turns_29 : decode cX8_turns 29 = .ok (.if_icmp .le 14, 3) := by decide +kernel
theorem dX8_turns_32 : decode cX8_turns 32 = .ok (.aload_n 0, 1) := by decide +kernel
theorem dX8_turns_33 : decode cX8_turns 33 = .ok (.iload 6, 2) := by decide +kernel
theorem dX8_turns_35 : decode cX8_turns 35 = .ok (.putfield 312, 3) := by decide +kernel
theorem dX8_turns_38 : decode cX8_turns 38 = .ok (.aload_n 0, 1) := by decide +kernel
theorem dX8_turns_39 : decode cX8_turns 39 = .ok (.lload_n 3, 1) := by decide +kernel
theorem dX8_turns_40 : decode cX8_turns 40 = .ok (.invokevirtual 321, 3) := by decide +kernel
theorem dX8_turns_43 : decode cX8_turns 43 = .ok (.iconst 1, 1) := by decide +kernel
theorem dX8_turns_44 : decode cX8_turns 44 = .ok (.ireturn, 1) := by decide +kernel
set_option maxRecDepth 20000 in
theorem ggX8_first_X8_has : GoodIn wsX8_first wsX8_has := goodIn_r _ [15, 3, 10, 16, 17, 18, 14, 19, 52, 53, 54, 55, 56, 57, 58, 59, 60, 61, 62, 63, 64, 65, 66, 67, 68, 69, 70, 71, 72, 73, 74, 75, 76, 77] (by decide +kernel) (by decide +kernel)
set_option maxRecDepth 20000 in
theorem gX8_first_X8_has : GoodIn wsX8_first (wsV RX8 315 RX8 yX8_has wsX8_has) := goodIn_app (goodIn_of _ (by decide +kernel)) ggX8_first_X8_has
set_option maxRecDepth 20000 in
theorem ggX8_first_X8_measure : GoodIn wsX8_first wsX8_measure := goodIn_r _ [23, 24, 25, 26, 14, 27, 10, 28, 29, 30, 31, 52, 53, 54, 55, 56, 57, 58, 59, 60, 61, 62, 63, 64, 65, 66, 67, 68, 69, 70, 71, 72, 73, 74, 75, 76, 77] (by decide +kernel) (by decide +kernel)
set_option maxRecDepth 20000 in
theorem gX8_first_X8_measure : GoodIn wsX8_first (wsV RX8 318 RX8 yX8_measure wsX8_measure) := goodIn_app (goodIn_of _ (by decide +kernel)) ggX8_first_X8_measure
set_option maxRecDepth 20000 in
theorem ggX8_first_X8_hasVowel : GoodIn wsX8_first wsX8_hasVowel := goodIn_r _ [35, 24, 25, 26, 14, 27, 10, 28, 29, 30, 31, 52, 53, 54, 55, 56, 57, 58, 59, 60, 61, 62, 63, 64, 65, 66, 67, 68, 69, 70, 71, 72, 73, 74, 75, 76, 77] (by decide +kernel) (by decide +kernel)
set_option maxRecDepth 20000 in
theorem gX8_first_X8_hasVowel : GoodIn wsX8_first (wsV RX8 336 RX8 yX8_hasVowel wsX8_hasVowel) := goodIn_app (goodIn_of _ (by decide +kernel)) ggX8_first_X8_hasVowel
set_option maxRecDepth 20000 in
theorem ggX8_first_X8_mend : GoodIn wsX8_first wsX8_mend := goodIn_r _ [39, 10, 3, 40, 41, 42, 43, 11, 12, 13, 14, 15, 16, 17, 18, 19, 44, 45, 46, 47, 24, 25, 26, 27, 28, 29, 30, 31, 20, 21, 22, 23, 48, 49, 50, 51, 52, 53, 54, 55, 56, 57, 58, 59, 60, 61, 62, 63, 64, 65, 66, 67, 68, 69, 70, 71, 72, 73, 74, 75, 76, 77] (by decide +kernel) (by decide +kernel)
set_option maxRecDepth 20000 in
theorem gX8_first_X8_mend : GoodIn wsX8_first (wsV RX8 339 RX8 yX8_mend wsX8_mend) := goodIn_app (goodIn_of _ (by decide +kernel)) ggX8_first_X8_mend
theorem dX8_first_0 : decode cX8_first 0 = .ok (.aload_n 0, 1) := by decide +kernel
theorem dX8_first_1 : decode cX8_first 1 = .ok (.ldc2_w 324, 3) := by decide +kernel
theorem dX8_first_4 : decode cX8_first 4 = .ok (.invokevirtual 315, 3) := by decide +kernel
theorem dX8_first_7 : decode cX8_first 7 = .ok (.ifCond .ne 13, 3) := by decide +kernel
theorem dX8_first_10 : decode cX8_first 10 = .ok (.aload_n 0, 1) := by decide +kernel
theorem dX8_first_11 : decode cX8_first 11 = .ok (.ldc2_w 326, 3) := by decide +kernel
theorem dX8_first_14 : decode cX8_first 14 = .ok (.invokevirtual 315, 3) := by decide +kernel
theorem dX8_first_17 : decode cX8_first 17 = .ok (.ifCond .eq 16, 3) := by decide +kernel
theorem dX8_first_20 : decode cX8_first 20 = .ok (.aload_n 0, 1) := by decide +kernel
theorem dX8_first_21 : decode cX8_first 21 = .ok (.dup, 1) := by decide +kernel
theorem dX8_first_22 : decode cX8_first 22 = .ok (.getfield 312, 3) := by decide +kernel
theorem dX8_first_25 : decode cX8_first 25 = .ok (.iconst 2, 1) := by decide +kernel
theorem dX8_first_26 : decode cX8_first 26 = .ok (.isub, 1) := by decide +kernel
theorem dX8_first_27 : decode cX8_first 27 = .ok (.putfield 312, 3) := by decide +kernel
theorem dX8_first_30 : decode cX8_first 30 = .ok (.goto 33, 3) := by decide +kernel
theorem dX8_first_33 : decode cX8_first 33 = .ok (.aload_n 0, 1) := by decide +kernel
theorem dX8_first_34 : decode cX8_first 34 = .ok (.ldc2_w 328, 3) := by decide +kernel
theorem dX8_first_37 : decode cX8_first 37 = .ok (.invokevirtual 315, 3) := by decide +kernel
theorem dX8_first_40 : decode cX8_first 40 = .ok (.ifCond .ne 23, 3) := by decide +kernel
theorem dX8_first_43 : decode cX8_first 43 = .ok (.aload_n 0, 1) := by decide +kernel
theorem dX8_first_44 : decode cX8_first 44 = .ok (.ldc2_w 330, 3) := by decide +kernel
theorem dX8_first_47 : decode cX8_first 47 = .ok (.invokevirtual 315, 3) := by decide +kernel
theorem dX8_first_50 : decode cX8_first 50 = .ok (.ifCond .eq 13, 3) := by decide +kernel
theorem dX8_first_53 : decode cX8_first 53 = .ok (.aload_n 0, 1) := by decide +kernel
theorem dX8_first_54 : decode cX8_first 54 = .ok (.dup, 1) := by decide +kernel
theorem dX8_first_55 : decode cX8_first 55 = .ok (.getfield 312, 3) := by decide +kernel
theorem dX8_first_58 : decode cX8_first 58 = .ok (.iconst 1, 1) := by decide +kernel
theorem dX8_first_59 : decode cX8_first 59 = .ok (.isub, 1) := by decide +kernel
theorem dX8_first_60 : decode cX8_first 60 = .ok (.putfield 312, 3) := by decide +kernel
theorem dX8_first_63 : decode cX8_first 63 = .ok (.aload_n 0, 1) := by decide +kernel
theorem dX8_first_64 : decode cX8_first 64 = .ok (.ldc2_w 332, 3) := by decide +kernel
theorem dX8_first_67 : decode cX8_first 67 = .ok (.invokevirtual 315, 3) := by decide +kernel
theorem dX8_first_70 : decode cX8_first 70 = .ok (.ifCond .eq 29, 3) := by decide +kernel
theorem dX8_first_73 : decode cX8_first 73 = .ok (.aload_n 0, 1) := by decide +kernel
theorem dX8_first_74 : decode cX8_first 74 = .ok (.aload_n 0, 1) := by decide +kernel
theorem dX8_first_75 : decode cX8_first 75 = .ok (.getfield 312, 3) := by decide +kernel
theorem dX8_first_78 : decode cX8_first 78 = .ok (.iconst 3, 1) := by decide +kernel
theorem dX8_first_79 : decode cX8_first 79 = .ok (.isub, 1) := by decide +kernel
theorem dX8_first_80 : decode cX8_first 80 = .ok (.invokevirtual 318, 3) := by decide +kernel
theorem dX8_first_83 : decode cX8_first 83 = .ok (.ifCond .le 93, 3) := by decide +kernel
theorem dX8_first_86 : decode cX8_first 86 = .ok (.aload_n 0, 1) := by decide +kernel
theorem dX8_first_87 : decode cX8_first 87 = .ok (.dup, 1) := by decide +kernel
theorem dX8_first_88 : decode cX8_first 88 = .ok (.getfield 312, 3) := by decide +kernel
theorem dX8_first_91 : decode cX8_first 91 = .ok (.iconst 1, 1) := by decide +kernel
theorem dX8_first_92 : decode cX8_first 92 = .ok (.isub, 1) := by decide +kernel
theorem dX8_first_93 : decode cX8_first 93 = .ok (.putfield 312, 3) := by decide +kernel
theorem dX8_first_96 : decode cX8_first 96 = .ok (.goto 80, 3) := by decide +kernel
theorem dX8_first_99 : decode cX8_first 99 = .ok (.aload_n 0, 1) := by decide +kernel
theorem dX8_first_100 : decode cX8_first 100 = .ok (.ldc2_w 334, 3) := by decide +kernel
theorem dX8_first_103 : decode cX8_first 103 = .ok (.invokevirtual 315, 3) := by decide +kernel
theorem dX8_first_106 : decode cX8_first 106 = .ok (.ifCond .eq 33, 3) := by decide +kernel
theorem dX8_first_109 : decode cX8_first 109 = .ok (.aload_n 0, 1) := by decide +kernel
theorem dX8_first_110 : decode cX8_first 110 = .ok (.aload_n 0, 1) := by decide +kernel
theorem dX8_first_111 : decode cX8_first 111 = .ok (.getfield 312, 3) := by decide +kernel
theorem dX8_first_114 : decode cX8_first 114 = .ok (.iconst 2, 1) := by decide +kernel
theorem dX8_first_115 : decode cX8_first 115 = .ok (.isub, 1) := by decide +kernel
theorem dX8_first_116 : decode cX8_first 116 = .ok (.invokevirtual 336, 3) := by decide +kernel
theorem dX8_first_119 : decode cX8_first 119 = .ok (.ifCond .eq 20, 3) := by decide +kernel
theorem dX8_first_122 : decode cX8_first 122 = .ok (.aload_n 0, 1) := by decide +kernel
theorem dX8_first_123 : decode cX8_first 123 = .ok (.dup, 1) := by decide +kernel
theorem dX8_first_124 : decode cX8_first 124 = .ok (.getfield 312, 3) := by decide +kernel
theorem dX8_first_127 : decode cX8_first 127 = .ok (.iconst 2, 1) := by decide +kernel
theorem dX8_first_128 : decode cX8_first 128 = .ok (.isub, 1) := by decide +kernel
theorem dX8_first_129 : decode cX8_first 129 = .ok (.putfield 312, 3) := by decide +kernel
theorem dX8_first_132 : decode cX8_first 132 = .ok (.aload_n 0, 1) := by decide +kernel
theorem dX8_first_133 : decode cX8_first 133 = .ok (.invokevirtual 339, 3) := by decide +kernel
theorem dX8_first_136 : decode cX8_first 136 = .ok (.goto 40, 3) := by decide +kernel
theorem dX8_first_139 : decode cX8_first 139 = .ok (.aload_n 0, 1) := by decide +kernel
theorem dX8_first_140 : decode cX8_first 140 = .ok (.ldc2_w 342, 3) := by decide +kernel
theorem dX8_first_143 : decode cX8_first 143 = .ok (.invokevirtual 315, 3) := by decide +kernel
theorem dX8_first_146 : decode cX8_first 146 = .ok (.ifCond .eq 30, 3) := by decide +kernel
theorem dX8_first_149 : decode cX8_first 149 = .ok (.aload_n 0, 1) := by decide +kernel
theorem dX8_first_150 : decode cX8_first 150 = .ok (.aload_n 0, 1) := by decide +kernel
theorem dX8_first_151 : decode cX8_first 151 = .ok (.getfield 312, 3) := by decide +kernel
theorem dX8_first_154 : decode cX8_first 154 = .ok (.iconst 3, 1) := by decide +kernel
theorem dX8_first_155 : decode cX8_first 155 = .ok (.isub, 1) := by decide +kernel
theorem dX8_first_156 : decode cX8_first 156 = .ok (.invokevirtual 336, 3) := by decide +kernel
theorem dX8_first_159 : decode cX8_first 159 = .ok (.ifCond .eq 17, 3) := by decide +kernel
theorem dX8_first_162 : decode cX8_first 162 = .ok (.aload_n 0, 1) := by decide +kernel
theorem dX8_first_163 : decode cX8_first 163 = .ok (.dup, 1) := by decide +kernel
theorem dX8_first_164 : decode cX8_first 164 = .ok (.getfield 312, 3) := by decide +kernel
theorem dX8_first_167 : decode cX8_first 167 = .ok (.iconst 3, 1) := by decide +kernel
theorem dX8_first_168 : decode cX8_first 168 = .ok (.isub, 1) := by decide +kernel
theorem dX8_first_169 : decode cX8_first 169 = .ok (.putfield 312, 3) := by decide +kernel
theorem dX8_first_172 : decode cX8_first 172 = .ok (.aload_n 0, 1) := by decide +kernel
theorem dX8_first_173 : decode cX8_first 173 = .ok (.invokevirtual 339, 3) := by decide +kernel
theorem dX8_first_176 : decode cX8_first 176 = .ok (.aload_n 0, 1) := by decide +kernel
theorem dX8_first_177 : decode cX8_first 177 = .ok (.ldc2_w 344, 3) := by decide +kernel
theorem dX8_first_180 : decode cX8_first 180 = .ok (.invokevirtual 315, 3) := by decide +kernel
theorem dX8_first_183 : decode cX8_first 183 = .ok (.ifCond .eq 29, 3) := by decide +kernel
theorem dX8_first_186 : decode cX8_first 186 = .ok (.aload_n 0, 1) := by decide +kernel
theorem dX8_first_187 : decode cX8_first 187 = .ok (.aload_n 0, 1) := by decide +kernel
theorem dX8_first_188 : decode cX8_first 188 = .ok (.getfield 312, 3) := by decide +kernel
theorem dX8_first_191 : decode cX8_first 191 = .ok (.iconst 1, 1) := by decide +kernel
theorem dX8_first_192 : decode cX8_first 192 = .ok (.isub, 1) := by decide +kernel
theorem dX8_first_193 : decode cX8_first 193 = .ok (.invokevirtual 336, 3) := by decide +kernel
theorem dX8_first_196 : decode cX8_first 196 = .ok (.ifCond .eq 16, 3) := by decide +kernel
theorem dX8_first_199 : decode cX8_first 199 = .ok (.aload_n 0, 1) := by decide +kernel
theorem dX8_first_200 : decode cX8_first 200 = .ok (.getfield 57, 3) := by decide +kernel
theorem dX8_first_203 : decode cX8_first 203 = .ok (.aload_n 0, 1) := by decide +kernel
theorem dX8_first_204 : decode cX8_first 204 = .ok (.getfield 312, 3) := by decide +kernel
theorem dX8_first_207 : decode cX8_first 207 = .ok (.iconst 1, 1) := by decide +kernel
theorem dX8_first_208 : decode cX8_first 208 = .ok (.isub, 1) := by decide +kernel
theorem dX8_first_209 : decode cX8_first 209 = .ok (.bipush 105, 2) := by decide +kernel
theorem dX8_first_211 : decode cX8_first 211 = .ok (.iastore, 1) := by decide +kernel
theorem dX8_first_212 : decode cX8_first 212 = .ok (.return_, 1) := by decide +kernel
set_option maxRecDepth 20000 in
theorem ggX8_mend_X8_has : GoodIn wsX8_mend wsX8_has := goodIn_r _ [11, 2, 1, 12, 13, 14, 10, 15, 36, 37, 38, 39, 40, 41, 42, 43, 44, 45, 46, 47, 48, 49, 50, 51, 52, 53, 54, 55, 56, 57, 58, 59, 60, 61] (by decide +kernel) (by decide +kernel)
set_option maxRecDepth 20000 in
theorem gX8_mend_X8_has : GoodIn wsX8_mend (wsV RX8 315 RX8 yX8_has wsX8_has) := goodIn_app (goodIn_of _ (by decide +kernel)) ggX8_mend_X8_has
set_option maxRecDepth 20000 in
theorem ggX8_mend_X8_append : GoodIn wsX8_mend wsX8_append := goodIn_r _ [19, 1, 2, 12, 13, 14, 10, 15, 36, 37, 38, 39, 40, 41, 42, 43, 44, 45, 46, 47, 48, 49, 50, 51, 52, 53, 54, 55, 56, 57, 58, 59, 60, 61] (by decide +kernel) (by decide +kernel)
set_option maxRecDepth 20000 in
theorem gX8_mend_X8_append : GoodIn wsX8_mend (wsV RX8 321 RX8 yX8_append wsX8_append) := goodIn_app (goodIn_of _ (by decide +kernel)) ggX8_mend_X8_append
set_option maxRecDepth 20000 in
theorem ggX8_mend_X8_isVowel : GoodIn wsX8_mend wsX8_isVowel := goodIn_r _ [23, 1, 24, 25, 26, 10, 27, 36, 37, 38, 39, 40, 41, 42, 43, 44, 45, 46, 47, 48, 49, 50, 51, 52, 53, 54, 55, 56, 57, 58, 59, 60, 61] (by decide +kernel) (by decide +kernel)
set_option maxRecDepth 20000 in
theorem gX8_mend_X8_isVowel : GoodIn wsX8_mend (wsV RX8 309 RX8 yX8_isVowel wsX8_isVowel) := goodIn_app (goodIn_of _ (by decide +kernel)) ggX8_mend_X8_isVowel
set_option maxRecDepth 20000 in
theorem ggX8_mend_X8_measure : GoodIn wsX8_mend wsX8_measure := goodIn_r _ [31, 20, 21, 22, 10, 23, 1, 24, 25, 26, 27, 36, 37, 38, 39, 40, 41, 42, 43, 44, 45, 46, 47, 48, 49, 50, 51, 52, 53, 54, 55, 56, 57, 58, 59, 60, 61] (by decide +kernel) (by decide +kernel)
set_option maxRecDepth 20000 in
theorem gX8_mend_X8_measure : GoodIn wsX8_mend (wsV RX8 318 RX8 yX8_measure wsX8_measure) := goodIn_app (goodIn_of _ (by decide +kernel)) ggX8_mend_X8_measure
set_option maxRecDepth 20000 in
theorem ggX8_mend_X8_cvc : GoodIn wsX8_mend wsX8_cvc := goodIn_r _ [35, 1, 20, 21, 22, 10, 23, 24, 25, 26, 27, 36, 37, 38, 39, 40, 41, 42, 43, 44, 45, 46, 47, 48, 49, 50, 51, 52, 53, 54, 55, 56, 57, 58, 59, 60, 61] (by decide +kernel) (by decide +kernel)
set_option maxRecDepth 20000 in
theorem gX8_mend_X8_cvc : GoodIn wsX8_mend (wsV RX8 354 RX8 yX8_cvc wsX8_cvc) := goodIn_app (goodIn_of _ (by decide +kernel)) ggX8_mend_X8_cvc
theorem dX8_mend_0 : decode cX8_mend 0 = .ok (.aload_n 0, 1) := by decide +kernel
theorem dX8_mend_1 : decode cX8_mend 1 = .ok (.getfield 57, 3) := by decide +kernel
theorem dX8_mend_4 : decode cX8_mend 4 = .ok (.aload_n 0, 1) := by decide +kernel
theorem dX8_mend_5 : decode cX8_mend 5 = .ok (.getfield 312, 3) := by decide +kernel
theorem dX8_mend_8 : decode cX8_mend 8 = .ok (.iconst 1, 1) := by decide +kernel
theorem dX8_mend_9 : decode cX8_mend 9 = .ok (.isub, 1) := by decide +kernel
theorem dX8_mend_10 : decode cX8_mend 10 = .ok (.iaload, 1) := by decide +kernel
theorem dX8_mend_11 : decode cX8_mend 11 = .ok (.istore_n 1, 1) := by decide +kernel
theorem dX8_mend_12 : decode cX8_mend 12 = .ok (.aload_n 0, 1) := by decide +kernel
theorem dX8_mend_13 : decode cX8_mend 13 = .ok (.ldc2_w 346, 3) := by decide +kernel
theorem dX8_mend_16 : decode cX8_mend 16 = .ok (.invokevirtual 315, 3) := by decide +kernel
theorem dX8_mend_19 : decode cX8_mend 19 = .ok (.ifCond .ne 23, 3) := by decide +kernel
theorem dX8_mend_22 : decode cX8_mend 22 = .ok (.aload_n 0, 1) := by decide +kernel
theorem dX8_mend_23 : decode cX8_mend 23 = .ok (.ldc2_w 348, 3) := by decide +kernel
theorem dX8_mend_26 : decode cX8_mend 26 = .ok (.invokevirtual 315, 3) := by decide +kernel
theorem dX8_mend_29 : decode cX8_mend 29 = .ok (.ifCond .ne 13, 3) := by decide +kernel
theorem dX8_mend_32 : decode cX8_mend 32 = .ok (.aload_n 0, 1) := by decide +kernel
theorem dX8_mend_33 : decode cX8_mend 33 = .ok (.ldc2_w 350, 3) := by decide +kernel
theorem dX8_mend_36 : decode cX8_mend 36 = .ok (.invokevirtual 315, 3) := by decide +kernel
theorem dX8_mend_39 : decode cX8_mend 39 = .ok (.ifCond .eq 13, 3) := by decide +kernel
theorem dX8_mend_42 : decode cX8_mend 42 = .ok (.aload_n 0, 1) := by decide +kernel
theorem dX8_mend_43 : decode cX8_mend 43 = .ok (.ldc2_w 352, 3) := by decide +kernel
theorem dX8_mend_46 : decode cX8_mend 46 = .ok (.invokevirtual 321, 3) := by decide +kernel
theorem dX8_mend_49 : decode cX8_mend 49 = .ok (.goto 100, 3) := by decide +kernel
theorem dX8_mend_52 : decode cX8_mend 52 = .ok (.aload_n 0, 1) := by decide +kernel
theorem dX8_mend_53 : decode cX8_mend 53 = .ok (.getfield 312, 3) := by decide +kernel
theorem dX8_mend_56 : decode cX8_mend 56 = .ok (.iconst 1, 1) := by decide +kernel
theorem dX8_mend_57 : decode cX8_mend 57 = .ok (.if_icmp .le 62, 3) := by decide +kernel
theorem dX8_mend_60 : decode cX8_mend 60 = .ok (.iload_n 1, 1) := by decide +kernel
theorem dX8_mend_61 : decode cX8_mend 61 = .ok (.aload_n 0, 1) := by decide +kernel
theorem dX8_mend_62 : decode cX8_mend 62 = .ok (.getfield 57, 3) := by decide +kernel
theorem dX8_mend_65 : decode cX8_mend 65 = .ok (.aload_n 0, 1) := by decide +kernel
theorem dX8_mend_66 : decode cX8_mend 66 = .ok (.getfield 312, 3) := by decide +kernel
theorem dX8_mend_69 : decode cX8_mend 69 = .ok (.iconst 2, 1) := by decide +kernel
theorem dX8_mend_70 : decode cX8_mend 70 = .ok (.isub, 1) := by decide +kernel
theorem dX8_mend_71 : decode cX8_mend 71 = .ok (.iaload, 1) := by decide +kernel
theorem dX8_mend_72 : decode cX8_mend 72 = .ok (.if_icmp .ne 47, 3) := by decide +kernel
theorem dX8_mend_75 : decode cX8_mend 75 = .ok (.aload_n 0, 1) := by decide +kernel
theorem dX8_mend_76 : decode cX8_mend 76 = .ok (.aload_n 0, 1) := by decide +kernel
theorem dX8_mend_77 : decode cX8_mend 77 = .ok (.getfield 312, 3) := by decide +kernel
theorem dX8_mend_80 : decode cX8_mend 80 = .ok (.iconst 1, 1) := by decide +kernel
theorem dX8_mend_81 : decode cX8_mend 81 = .ok (.isub, 1) := by decide +kernel
theorem dX8_mend_82 : decode cX8_mend 82 = .ok (.invokevirtual 309, 3) := by decide +kernel
theorem dX8_mend_85 : decode cX8_mend 85 = .ok (.ifCond .ne 34, 3) := by decide +kernel
theorem dX8_mend_88 : decode cX8_mend 88 = .ok (.iload_n 1, 1) := by decide +kernel
theorem dX8_mend_89 : decode cX8_mend 89 = .ok (.bipush 108, 2) := by decide +kernel
theorem dX8_mend_91 : decode cX8_mend 91 = .ok (.if_icmp .eq 58, 3) := by decide +kernel
theorem dX8_mend_94 : decode cX8_mend 94 = .ok (.iload_n 1, 1) := by decide +kernel
theorem dX8_mend_95 : decode cX8_mend 95 = .ok (.bipush 115, 2) := by decide +kernel
theorem dX8_mend_97 : decode cX8_mend 97 = .ok (.if_icmp .eq 52, 3) := by decide +kernel
theorem dX8_mend_100 : decode cX8_mend 100 = .ok (.iload_n 1, 1) := by decide +kernel
theorem dX8_mend_101 : decode cX8_mend 101 = .ok (.bipush 122, 2) := by decide +kernel
theorem dX8_mend_103 : decode cX8_mend 103 = .ok (.if_icmp .eq 46, 3) := by decide +kernel
theorem dX8_mend_106 : decode cX8_mend 106 = .ok (.aload_n 0, 1) := by decide +kernel
theorem dX8_mend_107 : decode cX8_mend 107 = .ok (.dup, 1) := by decide +kernel
theorem dX8_mend_108 : decode cX8_mend 108 = .ok (.getfield 312, 3) := by decide +kernel
theorem dX8_mend_111 : decode cX8_mend 111 = .ok (.iconst 1, 1) := by decide +kernel
theorem dX8_mend_112 : decode cX8_mend 112 = .ok (.isub, 1) := by decide +kernel
theorem dX8_mend_113 : decode cX8_mend 113 = .ok (.putfield 312, 3) := by decide +kernel
theorem dX8_mend_116 : decode cX8_mend 116 = .ok (.goto 33, 3) := by decide +kernel
theorem dX8_mend_119 : decode cX8_mend 119 = .ok (.aload_n 0, 1) := by decide +kernel
theorem dX8_mend_120 : decode cX8_mend 120 = .ok (.aload_n 0, 1) := by decide +kernel
theorem dX8_mend_121 : decode cX8_mend 121 = .ok (.getfield 312, 3) := by decide +kernel
theorem dX8_mend_124 : decode cX8_mend 124 = .ok (.invokevirtual 318, 3) := by decide +kernel
theorem dX8_mend_127 : decode cX8_mend 127 = .ok (.iconst 1, 1) := by decide +kernel
theorem dX8_mend_128 : decode cX8_mend 128 = .ok (.if_icmp .ne 21, 3) := by decide +kernel
theorem dX8_mend_131 : decode cX8_mend 131 = .ok (.aload_n 0, 1) := by decide +kernel
theorem dX8_mend_132 : decode cX8_mend 132 = .ok (.aload_n 0, 1) := by decide +kernel
theorem dX8_mend_133 : decode cX8_mend 133 = .ok (.getfield 312, 3) := by decide +kernel
theorem dX8_mend_136 : decode cX8_mend 136 = .ok (.invokevirtual 354, 3) := by decide +kernel
theorem dX8_mend_139 : decode cX8_mend 139 = .ok (.ifCond .eq 10, 3) := by decide +kernel
theorem dX8_mend_142 : decode cX8_mend 142 = .ok (.aload_n 0, 1) := by decide +kernel
theorem dX8_mend_143 : decode cX8_mend 143 = .ok (.ldc2_w 352, 3) := by decide +kernel
theorem dX8_mend_146 : decode cX8_mend 146 = .ok (.invokevirtual 321, 3) := by decide +kernel
theorem dX8_mend_149 : decode cX8_mend 149 = .ok (.return_, 1) := by decide +kernel
set_option maxRecDepth 20000 in
theorem ggX8_second_X8_turns : GoodIn wsX8_second wsX8_turns := goodIn_r _ [38, 39, 40, 41, 42, 37, 43, 44, 45, 46, 47, 48, 49, 50, 51, 52, 53, 54, 55, 56, 57, 58, 59, 60, 61, 62, 63, 64, 65, 66, 67, 68, 69, 70, 71, 72, 73, 74, 75, 76, 77, 78, 79, 80, 81, 82, 83, 84, 85, 86, 87, 88, 89, 90] (by decide +kernel) (by decide +kernel)
set_option maxRecDepth 20000 in
theorem gX8_second_X8_turns : GoodIn wsX8_second (wsV RX8 361 RX8 yX8_turns wsX8_turns) := goodIn_app (goodIn_of _ (by decide +kernel)) ggX8_second_X8_turns
theorem dX8_second_0 : decode cX8_second 0 = .ok (.aload_n 0, 1) := by decide +kernel
theorem dX8_second_1 : decode cX8_second 1 = .ok (.ldc2_w 357, 3) := by decide +kernel
theorem dX8_second_4 : decode cX8_second 4 = .ok (.ldc2_w 359, 3) := by decide +kernel
theorem dX8_second_7 : decode cX8_second 7 = .ok (.iconst 0, 1) := by decide +kernel
theorem dX8_second_8 : decode cX8_second 8 = .ok (.invokevirtual 361, 3) := by decide +kernel
theorem dX8_second_11 : decode cX8_second 11 = .ok (.ifCond .ne 59, 3) := by decide +kernel
theorem dX8_second_14 : decode cX8_second 14 = .ok (.aload_n 0, 1) := by decide +kernel
theorem dX8_second_15 : decode cX8_second 15 = .ok (.ldc2_w 365, 3) := by decide +kernel
theorem dX8_second_18 : decode cX8_second 18 = .ok (.ldc2_w 367, 3) := by decide +kernel
theorem dX8_second_21 : decode cX8_second 21 = .ok (.iconst 0, 1) := by decide +kernel
theorem dX8_second_22 : decode cX8_second 22 = .ok (.invokevirtual 361, 3) := by decide +kernel
theorem dX8_second_25 : decode cX8_second 25 = .ok (.ifCond .ne 45, 3) := by decide +kernel
theorem dX8_second_28 : decode cX8_second 28 = .ok (.aload_n 0, 1) := by decide +kernel
theorem dX8_second_29 : decode cX8_second 29 = .ok (.ldc2_w 369, 3) := by decide +kernel
theorem dX8_second_32 : decode cX8_second 32 = .ok (.ldc2_w 371, 3) := by decide +kernel
theorem dX8_second_35 : decode cX8_second 35 = .ok (.iconst 0, 1) := by decide +kernel
theorem dX8_second_36 : decode cX8_second 36 = .ok (.invokevirtual 361, 3) := by decide +kernel
theorem dX8_second_39 : decode cX8_second 39 = .ok (.ifCond .ne 31, 3) := by decide +kernel
theorem dX8_second_42 : decode cX8_second 42 = .ok (.aload_n 0, 1) := by decide +kernel
theorem dX8_second_43 : decode cX8_second 43 = .ok (.ldc2_w 373, 3) := by decide +kernel
theorem dX8_second_46 : decode cX8_second 46 = .ok (.ldc2_w 375, 3) := by decide +kernel
theorem dX8_second_49 : decode cX8_second 49 = .ok (.iconst 0, 1) := by decide +kernel
theorem dX8_second_50 : decode cX8_second 50 = .ok (.invokevirtual 361, 3) := by decide +kernel
theorem dX8_second_53 : decode cX8_second 53 = .ok (.ifCond .ne 17, 3) := by decide +kernel
theorem dX8_second_56 : decode cX8_second 56 = .ok (.aload_n 0, 1) := by decide +kernel
theorem dX8_second_57 : decode cX8_second 57 = .ok (.ldc2_w 377, 3) := by decide +kernel
theorem dX8_second_60 : decode cX8_second 60 = .ok (.ldc2_w 379, 3) := by decide +kernel
theorem dX8_second_63 : decode cX8_second 63 = .ok (.iconst 0, 1) := by decide +kernel
theorem dX8_second_64 : decode cX8_second 64 = .ok (.invokevirtual 361, 3) := by decide +kernel
theorem dX8_second_67 : decode cX8_second 67 = .ok (.ifCond .eq 4, 3) := by decide +kernel
theorem dX8_second_70 : decode cX8_second 70 = .ok (.return_, 1) := by decide +kernel
theorem dX8_second_71 : decode cX8_second 71 = .ok (.aload_n 0, 1) := by decide +kernel
theorem dX8_second_72 : decode cX8_second 72 = .ok (.ldc2_w 381, 3) := by decide +kernel
theorem dX8_second_75 : decode cX8_second 75 = .ok (.ldc2_w 383, 3) := by decide +kernel
theorem dX8_second_78 : decode cX8_second 78 = .ok (.iconst 0, 1) := by decide +kernel
theorem dX8_second_79 : decode cX8_second 79 = .ok (.invokevirtual 361, 3) := by decide +kernel
theorem dX8_second_82 : decode cX8_second 82 = .ok (.ifCond .ne 17, 3) := by decide +kernel
theorem dX8_second_85 : decode cX8_second 85 = .ok (.aload_n 0, 1) := by decide +kernel
theorem dX8_second_86 : decode cX8_second 86 = .ok (.ldc2_w 385, 3) := by decide +kernel
theorem dX8_second_89 : decode cX8_second 89 = .ok (.ldc2_w 387, 3) := by decide +kernel
theorem dX8_second_92 : decode cX8_second 92 = .ok (.iconst 0, 1) := by decide +kernel
theorem dX8_second_93 : decode cX8_second 93 = .ok (.invokevirtual 361, 3) := by decide +kernel
theorem dX8_second_96 : decode cX8_second 96 = .ok (.ifCond .eq 4, 3) := by decide +kernel
theorem dX8_second_99 : decode cX8_second 99 = .ok (.return_, 1) := by decide +kernel
theorem dX8_second_100 : decode cX8_second 100 = .ok (.aload_n 0, 1) := by decide +kernel
theorem dX8_second_101 : decode cX8_second 101 = .ok (.ldc2_w 389, 3) := by decide +kernel
theorem dX8_second_104 : decode cX8_second 104 = .ok (.ldc2_w 391, 3) := by decide +kernel
theorem dX8_second_107 : decode cX8_second 107 = .ok (.iconst 0, 1) := by decide +kernel
theorem dX8_second_108 : decode cX8_second 108 = .ok (.invokevirtual 361, 3) := by decide +kernel
theorem dX8_second_111 : decode cX8_second 111 = .ok (.ifCond .ne 73, 3) := by decide +kernel
theorem dX8_second_114 : decode cX8_second 114 = .ok (.aload_n 0, 1) := by decide +kernel
theorem dX8_second_115 : decode cX8_second 115 = .ok (.ldc2_w 393, 3) := by decide +kernel
theorem dX8_second_118 : decode cX8_second 118 = .ok (.ldc2_w 379, 3) := by decide +kernel
theorem dX8_second_121 : decode cX8_second 121 = .ok (.iconst 0, 1) := by decide +kernel
theorem dX8_second_122 : decode cX8_second 122 = .ok (.invokevirtual 361, 3) := by decide +kernel
theorem dX8_second_125 : decode cX8_second 125 = .ok (.ifCond .ne 59, 3) := by decide +kernel
theorem dX8_second_128 : decode cX8_second 128 = .ok (.aload_n 0, 1) := by decide +kernel
theorem dX8_second_129 : decode cX8_second 129 = .ok (.ldc2_w 395, 3) := by decide +kernel
theorem dX8_second_132 : decode cX8_second 132 = .ok (.ldc2_w 359, 3) := by decide +kernel
theorem dX8_second_135 : decode cX8_second 135 = .ok (.iconst 0, 1) := by decide +kernel
theorem dX8_second_136 : decode cX8_second 136 = .ok (.invokevirtual 361, 3) := by decide +kernel
theorem dX8_second_139 : decode cX8_second 139 = .ok (.ifCond .ne 45, 3) := by decide +kernel
theorem dX8_second_142 : decode cX8_second 142 = .ok (.aload_n 0, 1) := by decide +kernel
theorem dX8_second_143 : decode cX8_second 143 = .ok (.ldc2_w 397, 3) := by decide +kernel
theorem dX8_second_146 : decode cX8_second 146 = .ok (.ldc2_w 399, 3) := by decide +kernel
theorem dX8_second_149 : decode cX8_second 149 = .ok (.iconst 0, 1) := by decide +kernel
theorem dX8_second_150 : decode cX8_second 150 = .ok (.invokevirtual 361, 3) := by decide +kernel
theorem dX8_second_153 : decode cX8_second 153 = .ok (.ifCond .ne 31, 3) := by decide +kernel
theorem dX8_second_156 : decode cX8_second 156 = .ok (.aload_n 0, 1) := by decide +kernel
theorem dX8_second_157 : decode cX8_second 157 = .ok (.ldc2_w 401, 3) := by decide +kernel
theorem dX8_second_160 : decode cX8_second 160 = .ok (.ldc2_w 399, 3) := by decide +kernel
theorem dX8_second_163 : decode cX8_second 163 = .ok (.iconst 0, 1) := by decide +kernel
theorem dX8_second_164 : decode cX8_second 164 = .ok (.invokevirtual 361, 3) := by decide +kernel
theorem dX8_second_167 : decode cX8_second 167 = .ok (.ifCond .ne 17, 3) := by decide +kernel
theorem dX8_second_170 : decode cX8_second 170 = .ok (.aload_n 0, 1) := by decide +kernel
theorem dX8_second_171 : decode cX8_second 171 = .ok (.ldc2_w 403, 3) := by decide +kernel
theorem dX8_second_174 : decode cX8_second 174 = .ok (.ldc2_w 371, 3) := by decide +kernel
theorem dX8_second_177 : decode cX8_second 177 = .ok (.iconst 0, 1) := by decide +kernel
theorem dX8_second_178 : decode cX8_second 178 = .ok (.invokevirtual 361, 3) := by decide +kernel
theorem dX8_second_181 : decode cX8_second 181 = .ok (.ifCond .eq 4, 3) := by decide +kernel
theorem dX8_second_184 : decode cX8_second 184 = .ok (.return_, 1) := by decide +kernel
theorem dX8_second_185 : decode cX8_second 185 = .ok (.aload_n 0, 1) := by decide +kernel
theorem dX8_second_186 : decode cX8_second 186 = .ok (.ldc2_w 405, 3) := by decide +kernel
theorem dX8_second_189 : decode cX8_second 189 = .ok (.ldc2_w 407, 3) := by decide +kernel
theorem dX8_second_192 : decode cX8_second 192 = .ok (.iconst 0, 1) := by decide +kernel
theorem dX8_second_193 : decode cX8_second 193 = .ok (.invokevirtual 361, 3) := by decide +kernel
theorem dX8_second_196 : decode cX8_second 196 = .ok (.ifCond .ne 73, 3) := by decide +kernel
theorem dX8_second_199 : decode cX8_second 199 = .ok (.aload_n 0, 1) := by decide +kernel
theorem dX8_second_200 : decode cX8_second 200 = .ok (.ldc2_w 409, 3) := by decide +kernel
theorem dX8_second_203 : decode cX8_second 203 = .ok (.ldc2_w 411, 3) := by decide +kernel
theorem dX8_second_206 : decode cX8_second 206 = .ok (.iconst 0, 1) := by decide +kernel
theorem dX8_second_207 : decode cX8_second 207 = .ok (.invokevirtual 361, 3) := by decide +kernel
theorem dX8_second_210 : decode cX8_second 210 = .ok (.ifCond .ne 59, 3) := by decide +kernel
theorem dX8_second_213 : decode cX8_second 213 = .ok (.aload_n 0, 1) := by decide +kernel
theorem dX8_second_214 : decode cX8_second 214 = .ok (.ldc2_w 413, 3) := by decide +kernel
theorem dX8_second_217 : decode cX8_second 217 = .ok (.ldc2_w 367, 3) := by decide +kernel
theorem dX8_second_220 : decode cX8_second 220 = .ok (.iconst 0, 1) := by decide +kernel
theorem dX8_second_221 : decode cX8_second 221 = .ok (.invokevirtual 361, 3) := by decide +kernel
theorem dX8_second_224 : decode cX8_second 224 = .ok (.ifCond .ne 45, 3) := by decide +kernel
theorem dX8_second_227 : decode cX8_second 227 = .ok (.aload_n 0, 1) := by decide +kernel
theorem dX8_second_228 : decode cX8_second 228 = .ok (.ldc2_w 415, 3) := by decide +kernel
theorem dX8_second_231 : decode cX8_second 231 = .ok (.ldc2_w 417, 3) := by decide +kernel
theorem dX8_second_234 : decode cX8_second 234 = .ok (.iconst 0, 1) := by decide +kernel
theorem dX8_second_235 : decode cX8_second 235 = .ok (.invokevirtual 361, 3) := by decide +kernel
theorem dX8_second_238 : decode cX8_second 238 = .ok (.ifCond .ne 31, 3) := by decide +kernel
theorem dX8_second_241 : decode cX8_second 241 = .ok (.aload_n 0, 1) := by decide +kernel
theorem dX8_second_242 : decode cX8_second 242 = .ok (.ldc2_w 419, 3) := by decide +kernel
theorem dX8_second_245 : decode cX8_second 245 = .ok (.ldc2_w 399, 3) := by decide +kernel
theorem dX8_second_248 : decode cX8_second 248 = .ok (.iconst 0, 1) := by decide +kernel
theorem dX8_second_249 : decode cX8_second 249 = .ok (.invokevirtual 361, 3) := by decide +kernel
theorem dX8_second_252 : decode cX8_second 252 = .ok (.ifCond .ne 17, 3) := by decide +kernel
theorem dX8_second_255 : decode cX8_second 255 = .ok (.aload_n 0, 1) := by decide +kernel
theorem dX8_second_256 : decode cX8_second 256 = .ok (.ldc2_w 421, 3) := by decide +kernel
theorem dX8_second_259 : decode cX8_second 259 = .ok (.ldc2_w 359, 3) := by decide +kernel
theorem dX8_second_262 : decode cX8_second 262 = .ok (.iconst 0, 1) := by decide +kernel
theorem dX8_second_263 : decode cX8_second 263 = .ok (.invokevirtual 361, 3) := by decide +kernel
theorem dX8_second_266 : decode cX8_second 266 = .ok (.ifCond .eq 4, 3) := by decide +kernel
theorem dX8_second_269 : decode cX8_second 269 = .ok (.return_, 1) := by decide +kernel
theorem dX8_second_270 : decode cX8_second 270 = .ok (.aload_n 0, 1) := by decide +kernel
theorem dX8_second_271 : decode cX8_second 271 = .ok (.ldc2_w 423, 3) := by decide +kernel
theorem dX8_second_274 : decode cX8_second 274 = .ok (.ldc2_w 352, 3) := by decide +kernel
theorem dX8_second_277 : decode cX8_second 277 = .ok (.iconst 0, 1) := by decide +kernel
theorem dX8_second_278 : decode cX8_second 278 = .ok (.invokevirtual 361, 3) := by decide +kernel
theorem dX8_second_281 : decode cX8_second 281 = .ok (.pop, 1) := by decide +kernel
theorem dX8_second_282 : decode cX8_second 282 = .ok (.return_, 1) := by decide +kernel
set_option maxRecDepth 20000 in
theorem ggX8_third_X8_turns : GoodIn wsX8_third wsX8_turns := goodIn_r _ [14, 15, 16, 17, 18, 13, 19, 20, 21, 22, 23, 24, 25, 26, 27, 28, 29, 30, 31, 32, 33, 34, 35, 36, 37, 38, 39, 40, 41, 42, 43, 44, 45, 46, 47, 48, 49, 50, 51, 52, 53, 54, 55, 56, 57, 58, 59, 60, 61, 62, 63, 64, 65, 66] (by decide +kernel) (by decide +kernel)
set_option maxRecDepth 20000 in
theorem gX8_third_X8_turns : GoodIn wsX8_third (wsV RX8 361 RX8 yX8_turns wsX8_turns) := goodIn_app (goodIn_of _ (by decide +kernel)) ggX8_third_X8_turns
theorem dX8_third_0 : decode cX8_third 0 = .ok (.aload_n 0, 1) := by decide +kernel
theorem dX8_third_1 : decode cX8_third 1 = .ok (.ldc2_w 425, 3) := by decide +kernel
theorem dX8_third_4 : decode cX8_third 4 = .ok (.ldc2_w 427, 3) := by decide +kernel
theorem dX8_third_7 : decode cX8_third 7 = .ok (.iconst 0, 1) := by decide +kernel
theorem dX8_third_8 : decode cX8_third 8 = .ok (.invokevirtual 361, 3) := by decide +kernel
theorem dX8_third_11 : decode cX8_third 11 = .ok (.ifCond .ne 43, 3) := by decide +kernel
theorem dX8_third_14 : decode cX8_third 14 = .ok (.aload_n 0, 1) := by decide +kernel
theorem dX8_third_15 : decode cX8_third 15 = .ok (.ldc2_w 429, 3) := by decide +kernel
theorem dX8_third_18 : decode cX8_third 18 = .ok (.ldc2_w 427, 3) := by decide +kernel
theorem dX8_third_21 : decode cX8_third 21 = .ok (.iconst 0, 1) := by decide +kernel
theorem dX8_third_22 : decode cX8_third 22 = .ok (.invokevirtual 361, 3) := by decide +kernel
theorem dX8_third_25 : decode cX8_third 25 = .ok (.ifCond .ne 29, 3) := by decide +kernel
theorem dX8_third_28 : decode cX8_third 28 = .ok (.aload_n 0, 1) := by decide +kernel
theorem dX8_third_29 : decode cX8_third 29 = .ok (.ldc2_w 431, 3) := by decide +kernel
theorem dX8_third_32 : decode cX8_third 32 = .ok (.lconst 0, 1) := by decide +kernel
theorem dX8_third_33 : decode cX8_third 33 = .ok (.iconst 0, 1) := by decide +kernel
theorem dX8_third_34 : decode cX8_third 34 = .ok (.invokevirtual 361, 3) := by decide +kernel
theorem dX8_third_37 : decode cX8_third 37 = .ok (.ifCond .ne 17, 3) := by decide +kernel
theorem dX8_third_40 : decode cX8_third 40 = .ok (.aload_n 0, 1) := by decide +kernel
theorem dX8_third_41 : decode cX8_third 41 = .ok (.ldc2_w 433, 3) := by decide +kernel
theorem dX8_third_44 : decode cX8_third 44 = .ok (.ldc2_w 399, 3) := by decide +kernel
theorem dX8_third_47 : decode cX8_third 47 = .ok (.iconst 0, 1) := by decide +kernel
theorem dX8_third_48 : decode cX8_third 48 = .ok (.invokevirtual 361, 3) := by decide +kernel
theorem dX8_third_51 : decode cX8_third 51 = .ok (.ifCond .eq 4, 3) := by decide +kernel
theorem dX8_third_54 : decode cX8_third 54 = .ok (.return_, 1) := by decide +kernel
theorem dX8_third_55 : decode cX8_third 55 = .ok (.aload_n 0, 1) := by decide +kernel
theorem dX8_third_56 : decode cX8_third 56 = .ok (.ldc2_w 435, 3) := by decide +kernel
theorem dX8_third_59 : decode cX8_third 59 = .ok (.ldc2_w 427, 3) := by decide +kernel
theorem dX8_third_62 : decode cX8_third 62 = .ok (.iconst 0, 1) := by decide +kernel
theorem dX8_third_63 : decode cX8_third 63 = .ok (.invokevirtual 361, 3) := by decide +kernel
theorem dX8_third_66 : decode cX8_third 66 = .ok (.ifCond .ne 15, 3) := by decide +kernel
theorem dX8_third_69 : decode cX8_third 69 = .ok (.aload_n 0, 1) := by decide +kernel
theorem dX8_third_70 : decode cX8_third 70 = .ok (.ldc2_w 437, 3) := by decide +kernel
theorem dX8_third_73 : decode cX8_third 73 = .ok (.lconst 0, 1) := by decide +kernel
theorem dX8_third_74 : decode cX8_third 74 = .ok (.iconst 0, 1) := by decide +kernel
theorem dX8_third_75 : decode cX8_third 75 = .ok (.invokevirtual 361, 3) := by decide +kernel
theorem dX8_third_78 : decode cX8_third 78 = .ok (.ifCond .eq 4, 3) := by decide +kernel
theorem dX8_third_81 : decode cX8_third 81 = .ok (.return_, 1) := by decide +kernel
theorem dX8_third_82 : decode cX8_third 82 = .ok (.aload_n 0, 1) := by decide +kernel
theorem dX8_third_83 : decode cX8_third 83 = .ok (.ldc2_w 375, 3) := by decide +kernel
theorem dX8_third_86 : decode cX8_third 86 = .ok (.lconst 0, 1) := by decide +kernel
theorem dX8_third_87 : decode cX8_third 87 = .ok (.iconst 0, 1) := by decide +kernel
theorem dX8_third_88 : decode cX8_third 88 = .ok (.invokevirtual 361, 3) := by decide +kernel
theorem dX8_third_91 : decode cX8_third 91 = .ok (.pop, 1) := by decide +kernel
theorem dX8_third_92 : decode cX8_third 92 = .ok (.return_, 1) := by decide +kernel
set_option maxRecDepth 20000 in
theorem ggX8_fourth_X8_turns : GoodIn wsX8_fourth wsX8_turns := goodIn_r _ [26, 8, 27, 28, 29, 25, 30, 9, 31, 32, 33, 34, 35, 36, 37, 38, 39, 40, 41, 42, 43, 44, 45, 46, 47, 48, 49, 50, 51, 52, 53, 54, 55, 56, 57, 58, 59, 60, 61, 62, 63, 64, 65, 66, 67, 68, 69, 70, 71, 72, 73, 74, 75, 76] (by decide +kernel) (by decide +kernel)
set_option maxRecDepth 20000 in
theorem gX8_fourth_X8_turns : GoodIn wsX8_fourth (wsV RX8 361 RX8 yX8_turns wsX8_turns) := goodIn_app (goodIn_of _ (by decide +kernel)) ggX8_fourth_X8_turns
set_option maxRecDepth 20000 in
theorem ggX8_fourth_X8_has : GoodIn wsX8_fourth wsX8_has := goodIn_r _ [30, 8, 9, 31, 32, 33, 25, 34, 51, 52, 53, 54, 55, 56, 57, 58, 59, 60, 61, 62, 63, 64, 65, 66, 67, 68, 69, 70, 71, 72, 73, 74, 75, 76] (by decide +kernel) (by decide +kernel)
set_option maxRecDepth 20000 in
theorem gX8_fourth_X8_has : GoodIn wsX8_fourth (wsV RX8 315 RX8 yX8_has wsX8_has) := goodIn_app (goodIn_of _ (by decide +kernel)) ggX8_fourth_X8_has
theorem dX8_fourth_0 : decode cX8_fourth 0 = .ok (.aload_n 0, 1) := by decide +kernel
theorem dX8_fourth_1 : decode cX8_fourth 1 = .ok (.ldc2_w 439, 3) := by decide +kernel
theorem dX8_fourth_4 : decode cX8_fourth 4 = .ok (.lconst 0, 1) := by decide +kernel
theorem dX8_fourth_5 : decode cX8_fourth 5 = .ok (.iconst 1, 1) := by decide +kernel
theorem dX8_fourth_6 : decode cX8_fourth 6 = .ok (.invokevirtual 361, 3) := by decide +kernel
theorem dX8_fourth_9 : decode cX8_fourth 9 = .ok (.ifCond .eq 4, 3) := by decide +kernel
theorem dX8_fourth_12 : decode cX8_fourth 12 = .ok (.return_, 1) := by decide +kernel
theorem dX8_fourth_13 : decode cX8_fourth 13 = .ok (.aload_n 0, 1) := by decide +kernel
theorem dX8_fourth_14 : decode cX8_fourth 14 = .ok (.ldc2_w 411, 3) := by decide +kernel
theorem dX8_fourth_17 : decode cX8_fourth 17 = .ok (.lconst 0, 1) := by decide +kernel
theorem dX8_fourth_18 : decode cX8_fourth 18 = .ok (.iconst 1, 1) := by decide +kernel
theorem dX8_fourth_19 : decode cX8_fourth 19 = .ok (.invokevirtual 361, 3) := by decide +kernel
theorem dX8_fourth_22 : decode cX8_fourth 22 = .ok (.ifCond .ne 51, 3) := by decide +kernel
theorem dX8_fourth_25 : decode cX8_fourth 25 = .ok (.aload_n 0, 1) := by decide +kernel
theorem dX8_fourth_26 : decode cX8_fourth 26 = .ok (.ldc2_w 407, 3) := by decide +kernel
theorem dX8_fourth_29 : decode cX8_fourth 29 = .ok (.lconst 0, 1) := by decide +kernel
theorem dX8_fourth_30 : decode cX8_fourth 30 = .ok (.iconst 1, 1) := by decide +kernel
theorem dX8_fourth_31 : decode cX8_fourth 31 = .ok (.invokevirtual 361, 3) := by decide +kernel
theorem dX8_fourth_34 : decode cX8_fourth 34 = .ok (.ifCond .ne 39, 3) := by decide +kernel
theorem dX8_fourth_37 : decode cX8_fourth 37 = .ok (.aload_n 0, 1) := by decide +kernel
theorem dX8_fourth_38 : decode cX8_fourth 38 = .ok (.ldc2_w 417, 3) := by decide +kernel
theorem dX8_fourth_41 : decode cX8_fourth 41 = .ok (.lconst 0, 1) := by decide +kernel
theorem dX8_fourth_42 : decode cX8_fourth 42 = .ok (.iconst 1, 1) := by decide +kernel
theorem dX8_fourth_43 : decode cX8_fourth 43 = .ok (.invokevirtual 361, 3) := by decide +kernel
theorem dX8_fourth_46 : decode cX8_fourth 46 = .ok (.ifCond .ne 27, 3) := by decide +kernel
theorem dX8_fourth_49 : decode cX8_fourth 49 = .ok (.aload_n 0, 1) := by decide +kernel
theorem dX8_fourth_50 : decode cX8_fourth 50 = .ok (.ldc2_w 441, 3) := by decide +kernel
theorem dX8_fourth_53 : decode cX8_fourth 53 = .ok (.lconst 0, 1) := by decide +kernel
theorem dX8_fourth_54 : decode cX8_fourth 54 = .ok (.iconst 1, 1) := by decide +kernel
theorem dX8_fourth_55 : decode cX8_fourth 55 = .ok (.invokevirtual 361, 3) := by decide +kernel
theorem dX8_fourth_58 : decode cX8_fourth 58 = .ok (.ifCond .ne 15, 3) := by decide +kernel
theorem dX8_fourth_61 : decode cX8_fourth 61 = .ok (.aload_n 0, 1) := by decide +kernel
theorem dX8_fourth_62 : decode cX8_fourth 62 = .ok (.ldc2_w 443, 3) := by decide +kernel
theorem dX8_fourth_65 : decode cX8_fourth 65 = .ok (.lconst 0, 1) := by decide +kernel
theorem dX8_fourth_66 : decode cX8_fourth 66 = .ok (.iconst 1, 1) := by decide +kernel
theorem dX8_fourth_67 : decode cX8_fourth 67 = .ok (.invokevirtual 361, 3) := by decide +kernel
theorem dX8_fourth_70 : decode cX8_fourth 70 = .ok (.ifCond .eq 4, 3) := by decide +kernel
theorem dX8_fourth_73 : decode cX8_fourth 73 = .ok (.return_, 1) := by decide +kernel
theorem dX8_fourth_74 : decode cX8_fourth 74 = .ok (.aload_n 0, 1) := by decide +kernel
theorem dX8_fourth_75 : decode cX8_fourth 75 = .ok (.ldc2_w 445, 3) := by decide +kernel
theorem dX8_fourth_78 : decode cX8_fourth 78 = .ok (.invokevirtual 315, 3) := by decide +kernel
theorem dX8_fourth_81 : decode cX8_fourth 81 = .ok (.ifCond .eq 54, 3) := by decide +kernel
theorem dX8_fourth_84 : decode cX8_fourth 84 = .ok (.aload_n 0, 1) := by decide +kernel
theorem dX8_fourth_85 : decode cX8_fourth 85 = .ok (.getfield 312, 3) := by decide +kernel
theorem dX8_fourth_88 : decode cX8_fourth 88 = .ok (.iconst 3, 1) := by decide +kernel
theorem dX8_fourth_89 : decode cX8_fourth 89 = .ok (.if_icmp .le 45, 3) := by decide +kernel
theorem dX8_fourth_92 : decode cX8_fourth 92 = .ok (.aload_n 0, 1) := by decide +kernel
theorem dX8_fourth_93 : decode cX8_fourth 93 = .ok (.getfield 57, 3) := by decide +kernel
theorem dX8_fourth_96 : decode cX8_fourth 96 = .ok (.aload_n 0, 1) := by decide +kernel
theorem dX8_fourth_97 : decode cX8_fourth 97 = .ok (.getfield 312, 3) := by decide +kernel
theorem dX8_fourth_100 : decode cX8_fourth 100 = .ok (.iconst 4, 1) := by decide +kernel
theorem dX8_fourth_101 : decode cX8_fourth 101 = .ok (.isub, 1) := by decide +kernel
theorem dX8_fourth_102 : decode cX8_fourth 102 = .ok (.iaload, 1) := by decide +kernel
theorem dX8_fourth_103 : decode cX8_fourth 103 = .ok (.bipush 115, 2) := by decide +kernel
theorem dX8_fourth_105 : decode cX8_fourth 105 = .ok (.if_icmp .eq 19, 3) := by decide +kernel
theorem dX8_fourth_108 : decode cX8_fourth 108 = .ok (.aload_n 0, 1) := by decide +kernel
theorem dX8_fourth_109 : decode cX8_fourth 109 = .ok (.getfield 57, 3) := by decide +kernel
theorem dX8_fourth_112 : decode cX8_fourth 112 = .ok (.aload_n 0, 1) := by decide +kernel
theorem dX8_fourth_113 : decode cX8_fourth 113 = .ok (.getfield 312, 3) := by decide +kernel
theorem dX8_fourth_116 : decode cX8_fourth 116 = .ok (.iconst 4, 1) := by decide +kernel
theorem dX8_fourth_117 : decode cX8_fourth 117 = .ok (.isub, 1) := by decide +kernel
theorem dX8_fourth_118 : decode cX8_fourth 118 = .ok (.iaload, 1) := by decide +kernel
theorem dX8_fourth_119 : decode cX8_fourth 119 = .ok (.bipush 116, 2) := by decide +kernel
theorem dX8_fourth_121 : decode cX8_fourth 121 = .ok (.if_icmp .ne 13, 3) := by decide +kernel
theorem dX8_fourth_124 : decode cX8_fourth 124 = .ok (.aload_n 0, 1) := by decide +kernel
theorem dX8_fourth_125 : decode cX8_fourth 125 = .ok (.ldc2_w 445, 3) := by decide +kernel
theorem dX8_fourth_128 : decode cX8_fourth 128 = .ok (.lconst 0, 1) := by decide +kernel
theorem dX8_fourth_129 : decode cX8_fourth 129 = .ok (.iconst 1, 1) := by decide +kernel
theorem dX8_fourth_130 : decode cX8_fourth 130 = .ok (.invokevirtual 361, 3) := by decide +kernel
theorem dX8_fourth_133 : decode cX8_fourth 133 = .ok (.pop, 1) := by decide +kernel
theorem dX8_fourth_134 : decode cX8_fourth 134 = .ok (.return_, 1) := by decide +kernel
theorem dX8_fourth_135 : decode cX8_fourth 135 = .ok (.aload_n 0, 1) := by decide +kernel
theorem dX8_fourth_136 : decode cX8_fourth 136 = .ok (.ldc2_w 447, 3) := by decide +kernel
theorem dX8_fourth_139 : decode cX8_fourth 139 = .ok (.lconst 0, 1) := by decide +kernel
theorem dX8_fourth_140 : decode cX8_fourth 140 = .ok (.iconst 1, 1) := by decide +kernel
theorem dX8_fourth_141 : decode cX8_fourth 141 = .ok (.invokevirtual 361, 3) := by decide +kernel
theorem dX8_fourth_144 : decode cX8_fourth 144 = .ok (.ifCond .ne 87, 3) := by decide +kernel
theorem dX8_fourth_147 : decode cX8_fourth 147 = .ok (.aload_n 0, 1) := by decide +kernel
theorem dX8_fourth_148 : decode cX8_fourth 148 = .ok (.ldc2_w 391, 3) := by decide +kernel
theorem dX8_fourth_151 : decode cX8_fourth 151 = .ok (.lconst 0, 1) := by decide +kernel
theorem dX8_fourth_152 : decode cX8_fourth 152 = .ok (.iconst 1, 1) := by decide +kernel
theorem dX8_fourth_153 : decode cX8_fourth 153 = .ok (.invokevirtual 361, 3) := by decide +kernel
theorem dX8_fourth_156 : decode cX8_fourth 156 = .ok (.ifCond .ne 75, 3) := by decide +kernel
theorem dX8_fourth_159 : decode cX8_fourth 159 = .ok (.aload_n 0, 1) := by decide +kernel
theorem dX8_fourth_160 : decode cX8_fourth 160 = .ok (.ldc2_w 449, 3) := by decide +kernel
theorem dX8_fourth_163 : decode cX8_fourth 163 = .ok (.lconst 0, 1) := by decide +kernel
theorem dX8_fourth_164 : decode cX8_fourth 164 = .ok (.iconst 1, 1) := by decide +kernel
theorem dX8_fourth_165 : decode cX8_fourth 165 = .ok (.invokevirtual 361, 3) := by decide +kernel
theorem dX8_fourth_168 : decode cX8_fourth 168 = .ok (.ifCond .ne 63, 3) := by decide +kernel
theorem dX8_fourth_171 : decode cX8_fourth 171 = .ok (.aload_n 0, 1) := by decide +kernel
theorem dX8_fourth_172 : decode cX8_fourth 172 = .ok (.ldc2_w 359, 3) := by decide +kernel
theorem dX8_fourth_175 : decode cX8_fourth 175 = .ok (.lconst 0, 1) := by decide +kernel
theorem dX8_fourth_176 : decode cX8_fourth 176 = .ok (.iconst 1, 1) := by decide +kernel
theorem dX8_fourth_177 : decode cX8_fourth 177 = .ok (.invokevirtual 361, 3) := by decide +kernel
theorem dX8_fourth_180 : decode cX8_fourth 180 = .ok (.ifCond .ne 51, 3) := by decide +kernel
theorem dX8_fourth_183 : decode cX8_fourth 183 = .ok (.aload_n 0, 1) := by decide +kernel
theorem dX8_fourth_184 : decode cX8_fourth 184 = .ok (.ldc2_w 451, 3) := by decide +kernel
theorem dX8_fourth_187 : decode cX8_fourth 187 = .ok (.lconst 0, 1) := by decide +kernel
theorem dX8_fourth_188 : decode cX8_fourth 188 = .ok (.iconst 1, 1) := by decide +kernel
theorem dX8_fourth_189 : decode cX8_fourth 189 = .ok (.invokevirtual 361, 3) := by decide +kernel
theorem dX8_fourth_192 : decode cX8_fourth 192 = .ok (.ifCond .ne 39, 3) := by decide +kernel
theorem dX8_fourth_195 : decode cX8_fourth 195 = .ok (.aload_n 0, 1) := by decide +kernel
theorem dX8_fourth_196 : decode cX8_fourth 196 = .ok (.ldc2_w 379, 3) := by decide +kernel
theorem dX8_fourth_199 : decode cX8_fourth 199 = .ok (.lconst 0, 1) := by decide +kernel
theorem dX8_fourth_200 : decode cX8_fourth 200 = .ok (.iconst 1, 1) := by decide +kernel
theorem dX8_fourth_201 : decode cX8_fourth 201 = .ok (.invokevirtual 361, 3) := by decide +kernel
theorem dX8_fourth_204 : decode cX8_fourth 204 = .ok (.ifCond .ne 27, 3) := by decide +kernel
theorem dX8_fourth_207 : decode cX8_fourth 207 = .ok (.aload_n 0, 1) := by decide +kernel
theorem dX8_fourth_208 : decode cX8_fourth 208 = .ok (.ldc2_w 371, 3) := by decide +kernel
theorem dX8_fourth_211 : decode cX8_fourth 211 = .ok (.lconst 0, 1) := by decide +kernel
theorem dX8_fourth_212 : decode cX8_fourth 212 = .ok (.iconst 1, 1) := by decide +kernel
theorem dX8_fourth_213 : decode cX8_fourth 213 = .ok (.invokevirtual 361, 3) := by decide +kernel
theorem dX8_fourth_216 : decode cX8_fourth 216 = .ok (.ifCond .ne 15, 3) := by decide +kernel
theorem dX8_fourth_219 : decode cX8_fourth 219 = .ok (.aload_n 0, 1) := by decide +kernel
theorem dX8_fourth_220 : decode cX8_fourth 220 = .ok (.ldc2_w 367, 3) := by decide +kernel
theorem dX8_fourth_223 : decode cX8_fourth 223 = .ok (.lconst 0, 1) := by decide +kernel
theorem dX8_fourth_224 : decode cX8_fourth 224 = .ok (.iconst 1, 1) := by decide +kernel
theorem dX8_fourth_225 : decode cX8_fourth 225 = .ok (.invokevirtual 361, 3) := by decide +kernel
theorem dX8_fourth_228 : decode cX8_fourth 228 = .ok (.ifCond .eq 4, 3) := by decide +kernel
theorem dX8_fourth_231 : decode cX8_fourth 231 = .ok (.return_, 1) := by decide +kernel
theorem dX8_fourth_232 : decode cX8_fourth 232 = .ok (.aload_n 0, 1) := by decide +kernel
theorem dX8_fourth_233 : decode cX8_fourth 233 = .ok (.ldc2_w 399, 3) := by decide +kernel
theorem dX8_fourth_236 : decode cX8_fourth 236 = .ok (.lconst 0, 1) := by decide +kernel
theorem dX8_fourth_237 : decode cX8_fourth 237 = .ok (.iconst 1, 1) := by decide +kernel
theorem dX8_fourth_238 : decode cX8_fourth 238 = .ok (.invokevirtual 361, 3) := by decide +kernel
theorem dX8_fourth_241 : decode cX8_fourth 241 = .ok (.ifCond .ne 27, 3) := by decide +kernel
theorem dX8_fourth_244 : decode cX8_fourth 244 = .ok (.aload_n 0, 1) := by decide +kernel
theorem dX8_fourth_245 : decode cX8_fourth 245 = .ok (.ldc2_w 453, 3) := by decide +kernel
theorem dX8_fourth_248 : decode cX8_fourth 248 = .ok (.lconst 0, 1) := by decide +kernel
theorem dX8_fourth_249 : decode cX8_fourth 249 = .ok (.iconst 1, 1) := by decide +kernel
theorem dX8_fourth_250 : decode cX8_fourth 250 = .ok (.invokevirtual 361, 3) := by decide +kernel
theorem dX8_fourth_253 : decode cX8_fourth 253 = .ok (.ifCond .ne 15, 3) := by decide +kernel
theorem dX8_fourth_256 : decode cX8_fourth 256 = .ok (.aload_n 0, 1) := by decide +kernel
theorem dX8_fourth_257 : decode cX8_fourth 257 = .ok (.ldc2_w 427, 3) := by decide +kernel
theorem dX8_fourth_260 : decode cX8_fourth 260 = .ok (.lconst 0, 1) := by decide +kernel
theorem dX8_fourth_261 : decode cX8_fourth 261 = .ok (.iconst 1, 1) := by decide +kernel
theorem dX8_fourth_262 : decode cX8_fourth 262 = .ok (.invokevirtual 361, 3) := by decide +kernel
theorem dX8_fourth_265 : decode cX8_fourth 265 = .ok (.ifCond .eq 4, 3) := by decide +kernel
theorem dX8_fourth_268 : decode cX8_fourth 268 = .ok (.return_, 1) := by decide +kernel
theorem dX8_fourth_269 : decode cX8_fourth 269 = .ok (.aload_n 0, 1) := by decide +kernel
theorem dX8_fourth_270 : decode cX8_fourth 270 = .ok (.ldc2_w 455, 3) := by decide +kernel
theorem dX8_fourth_273 : decode cX8_fourth 273 = .ok (.lconst 0, 1) := by decide +kernel
theorem dX8_fourth_274 : decode cX8_fourth 274 = .ok (.iconst 1, 1) := by decide +kernel
theorem dX8_fourth_275 : decode cX8_fourth 275 = .ok (.invokevirtual 361, 3) := by decide +kernel
theorem dX8_fourth_278 : decode cX8_fourth 278 = .ok (.pop, 1) := by decide +kernel
theorem dX8_fourth_279 : decode cX8_fourth 279 = .ok (.return_, 1) := by decide +kernel
set_option maxRecDepth 20000 in
theorem ggX8_fifth_X8_has : GoodIn wsX8_fifth wsX8_has := goodIn_r _ [8, 2, 9, 10, 11, 12, 7, 13, 30, 31, 32, 33, 34, 35, 36, 37, 38, 39, 40, 41, 42, 43, 44, 45, 46, 47, 48, 49, 50, 51, 52, 53, 54, 55] (by decide +kernel) (by decide +kernel)
set_option maxRecDepth 20000 in
theorem gX8_fifth_X8_has : GoodIn wsX8_fifth (wsV RX8 315 RX8 yX8_has wsX8_has) := goodIn_app (goodIn_of _ (by decide +kernel)) ggX8_fifth_X8_has
set_option maxRecDepth 20000 in
theorem ggX8_fifth_X8_measure : GoodIn wsX8_fifth wsX8_measure := goodIn_r _ [17, 18, 19, 20, 7, 21, 9, 22, 23, 24, 25, 30, 31, 32, 33, 34, 35, 36, 37, 38, 39, 40, 41, 42, 43, 44, 45, 46, 47, 48, 49, 50, 51, 52, 53, 54, 55] (by decide +kernel) (by decide +kernel)
set_option maxRecDepth 20000 in
theorem gX8_fifth_X8_measure : GoodIn wsX8_fifth (wsV RX8 318 RX8 yX8_measure wsX8_measure) := goodIn_app (goodIn_of _ (by decide +kernel)) ggX8_fifth_X8_measure
set_option maxRecDepth 20000 in
theorem ggX8_fifth_X8_cvc : GoodIn wsX8_fifth wsX8_cvc := goodIn_r _ [29, 9, 18, 19, 20, 7, 21, 22, 23, 24, 25, 30, 31, 32, 33, 34, 35, 36, 37, 38, 39, 40, 41, 42, 43, 44, 45, 46, 47, 48, 49, 50, 51, 52, 53, 54, 55] (by decide +kernel) (by decide +kernel)
set_option maxRecDepth 20000 in
theorem gX8_fifth_X8_cvc : GoodIn wsX8_fifth (wsV RX8 354 RX8 yX8_cvc wsX8_cvc) := goodIn_app (goodIn_of _ (by decide +kernel)) ggX8_fifth_X8_cvc
theorem dX8_fifth_0 : decode cX8_fifth 0 = .ok (.aload_n 0, 1) := by decide +kernel
theorem dX8_fifth_1 : decode cX8_fifth 1 = .ok (.ldc2_w 352, 3) := by decide +kernel
theorem dX8_fifth_4 : decode cX8_fifth 4 = .ok (.invokevirtual 315, 3) := by decide +kernel
theorem dX8_fifth_7 : decode cX8_fifth 7 = .ok (.ifCond .eq 47, 3) := by decide +kernel
theorem dX8_fifth_10 : decode cX8_fifth 10 = .ok (.aload_n 0, 1) := by decide +kernel
theorem dX8_fifth_11 : decode cX8_fifth 11 = .ok (.aload_n 0, 1) := by decide +kernel
theorem dX8_fifth_12 : decode cX8_fifth 12 = .ok (.getfield 312, 3) := by decide +kernel
theorem dX8_fifth_15 : decode cX8_fifth 15 = .ok (.iconst 1, 1) := by decide +kernel
theorem dX8_fifth_16 : decode cX8_fifth 16 = .ok (.isub, 1) := by decide +kernel
theorem dX8_fifth_17 : decode cX8_fifth 17 = .ok (.invokevirtual 318, 3) := by decide +kernel
theorem dX8_fifth_20 : decode cX8_fifth 20 = .ok (.istore_n 1, 1) := by decide +kernel
theorem dX8_fifth_21 : decode cX8_fifth 21 = .ok (.iload_n 1, 1) := by decide +kernel
theorem dX8_fifth_22 : decode cX8_fifth 22 = .ok (.iconst 1, 1) := by decide +kernel
theorem dX8_fifth_23 : decode cX8_fifth 23 = .ok (.if_icmp .gt 21, 3) := by decide +kernel
theorem dX8_fifth_26 : decode cX8_fifth 26 = .ok (.iload_n 1, 1) := by decide +kernel
theorem dX8_fifth_27 : decode cX8_fifth 27 = .ok (.iconst 1, 1) := by decide +kernel
theorem dX8_fifth_28 : decode cX8_fifth 28 = .ok (.if_icmp .ne 26, 3) := by decide +kernel
theorem dX8_fifth_31 : decode cX8_fifth 31 = .ok (.aload_n 0, 1) := by decide +kernel
theorem dX8_fifth_32 : decode cX8_fifth 32 = .ok (.aload_n 0, 1) := by decide +kernel
theorem dX8_fifth_33 : decode cX8_fifth 33 = .ok (.getfield 312, 3) := by decide +kernel
theorem dX8_fifth_36 : decode cX8_fifth 36 = .ok (.iconst 1, 1) := by decide +kernel
theorem dX8_fifth_37 : decode cX8_fifth 37 = .ok (.isub, 1) := by decide +kernel
theorem dX8_fifth_38 : decode cX8_fifth 38 = .ok (.invokevirtual 354, 3) := by decide +kernel
theorem dX8_fifth_41 : decode cX8_fifth 41 = .ok (.ifCond .ne 13, 3) := by decide +kernel
theorem dX8_fifth_44 : decode cX8_fifth 44 = .ok (.aload_n 0, 1) := by decide +kernel
theorem dX8_fifth_45 : decode cX8_fifth 45 = .ok (.dup, 1) := by decide +kernel
theorem dX8_fifth_46 : decode cX8_fifth 46 = .ok (.getfield 312, 3) := by decide +kernel
theorem dX8_fifth_49 : decode cX8_fifth 49 = .ok (.iconst 1, 1) := by decide +kernel
theorem dX8_fifth_50 : decode cX8_fifth 50 = .ok (.isub, 1) := by decide +kernel
theorem dX8_fifth_51 : decode cX8_fifth 51 = .ok (.putfield 312, 3) := by decide +kernel
theorem dX8_fifth_54 : decode cX8_fifth 54 = .ok (.aload_n 0, 1) := by decide +kernel
theorem dX8_fifth_55 : decode cX8_fifth 55 = .ok (.ldc2_w 457, 3) := by decide +kernel
theorem dX8_fifth_58 : decode cX8_fifth 58 = .ok (.invokevirtual 315, 3) := by decide +kernel
theorem dX8_fifth_61 : decode cX8_fifth 61 = .ok (.ifCond .eq 27, 3) := by decide +kernel
theorem dX8_fifth_64 : decode cX8_fifth 64 = .ok (.aload_n 0, 1) := by decide +kernel
theorem dX8_fifth_65 : decode cX8_fifth 65 = .ok (.aload_n 0, 1) := by decide +kernel
theorem dX8_fifth_66 : decode cX8_fifth 66 = .ok (.getfield 312, 3) := by decide +kernel
theorem dX8_fifth_69 : decode cX8_fifth 69 = .ok (.iconst 1, 1) := by decide +kernel
theorem dX8_fifth_70 : decode cX8_fifth 70 = .ok (.isub, 1) := by decide +kernel
theorem dX8_fifth_71 : decode cX8_fifth 71 = .ok (.invokevirtual 318, 3) := by decide +kernel
theorem dX8_fifth_74 : decode cX8_fifth 74 = .ok (.iconst 1, 1) := by decide +kernel
theorem dX8_fifth_75 : decode cX8_fifth 75 = .ok (.if_icmp .le 13, 3) := by decide +kernel
theorem dX8_fifth_78 : decode cX8_fifth 78 = .ok (.aload_n 0, 1) := by decide +kernel
theorem dX8_fifth_79 : decode cX8_fifth 79 = .ok (.dup, 1) := by decide +kernel
theorem dX8_fifth_80 : decode cX8_fifth 80 = .ok (.getfield 312, 3) := by decide +kernel
theorem dX8_fifth_83 : decode cX8_fifth 83 = .ok (.iconst 1, 1) := by decide +kernel
theorem dX8_fifth_84 : decode cX8_fifth 84 = .ok (.isub, 1) := by decide +kernel
theorem dX8_fifth_85 : decode cX8_fifth 85 = .ok (.putfield 312, 3) := by decide +kernel
theorem dX8_fifth_88 : decode cX8_fifth 88 = .ok (.return_, 1) := by decide +kernel
set_option maxRecDepth 20000 in
theorem ggX8_stem_X8_first : GoodIn wsX8_stem wsX8_first := goodIn_r _ [11, 12, 13, 2, 14, 15, 16, 17, 18, 19, 3, 20, 21, 22, 10, 23, 24, 25, 26, 27, 28, 29, 30, 31, 32, 33, 34, 35, 36, 37, 38, 39, 40, 41, 42, 43, 44, 45, 46, 47, 48, 49, 50, 51, 52, 53, 54, 55, 56, 57, 58, 59, 129, 130, 131, 132, 133, 134, 135, 136, 137, 138, 139, 140, 141, 142, 143, 144, 145, 146, 147, 148, 149, 150, 151, 152, 153, 154] (by decide +kernel) (by decide +kernel)
set_option maxRecDepth 20000 in
theorem gX8_stem_X8_first : GoodIn wsX8_stem (wsV RX8 459 RX8 yX8_first wsX8_first) := goodIn_app (goodIn_of _ (by decide +kernel)) ggX8_stem_X8_first
set_option maxRecDepth 20000 in
theorem ggX8_stem_X8_second : GoodIn wsX8_stem wsX8_second := goodIn_r _ [63, 64, 65, 66, 67, 68, 69, 70, 71, 72, 73, 74, 75, 76, 77, 78, 79, 80, 81, 82, 83, 84, 85, 86, 87, 88, 89, 90, 91, 92, 93, 94, 95, 51, 96, 97, 98, 10, 99, 2, 20, 21, 22, 23, 3, 24, 25, 26, 27, 28, 29, 30, 31, 32, 33, 34, 35, 36, 37, 38, 39, 52, 53, 54, 55, 129, 130, 131, 132, 133, 134, 135, 136, 137, 138, 139, 140, 141, 142, 143, 144, 145, 146, 147, 148, 149, 150, 151, 152, 153, 154] (by decide +kernel) (by decide +kernel)
set_option maxRecDepth 20000 in
theorem gX8_stem_X8_second : GoodIn wsX8_stem (wsV RX8 462 RX8 yX8_second wsX8_second) := goodIn_app (goodIn_of _ (by decide +kernel)) ggX8_stem_X8_second
set_option maxRecDepth 20000 in
theorem ggX8_stem_X8_third : GoodIn wsX8_stem wsX8_third := goodIn_r _ [103, 104, 105, 106, 107, 108, 83, 109, 110, 71, 96, 97, 98, 10, 99, 2, 20, 21, 22, 23, 3, 24, 25, 26, 27, 28, 29, 30, 31, 32, 33, 34, 35, 36, 37, 38, 39, 52, 53, 54, 55, 129, 130, 131, 132, 133, 134, 135, 136, 137, 138, 139, 140, 141, 142, 143, 144, 145, 146, 147, 148, 149, 150, 151, 152, 153, 154] (by decide +kernel) (by decide +kernel)
set_option maxRecDepth 20000 in
theorem gX8_stem_X8_third : GoodIn wsX8_stem (wsV RX8 465 RX8 yX8_third wsX8_third) := goodIn_app (goodIn_of _ (by decide +kernel)) ggX8_stem_X8_third
set_option maxRecDepth 20000 in
theorem ggX8_stem_X8_fourth : GoodIn wsX8_stem wsX8_fourth := goodIn_r _ [114, 115, 89, 87, 92, 116, 117, 118, 2, 3, 119, 79, 120, 65, 121, 73, 69, 67, 83, 122, 105, 123, 96, 97, 98, 10, 99, 20, 21, 22, 23, 24, 25, 26, 27, 28, 29, 30, 31, 32, 33, 34, 35, 36, 37, 38, 39, 52, 53, 54, 55, 129, 130, 131, 132, 133, 134, 135, 136, 137, 138, 139, 140, 141, 142, 143, 144, 145, 146, 147, 148, 149, 150, 151, 152, 153, 154] (by decide +kernel) (by decide +kernel)
set_option maxRecDepth 20000 in
theorem gX8_stem_X8_fourth : GoodIn wsX8_stem (wsV RX8 468 RX8 yX8_fourth wsX8_fourth) := goodIn_app (goodIn_of _ (by decide +kernel)) ggX8_stem_X8_fourth
set_option maxRecDepth 20000 in
theorem ggX8_stem_X8_fifth : GoodIn wsX8_stem wsX8_fifth := goodIn_r _ [127, 51, 2, 128, 20, 21, 22, 10, 23, 3, 24, 25, 26, 27, 28, 29, 30, 31, 32, 33, 34, 35, 36, 37, 38, 39, 56, 57, 58, 59, 129, 130, 131, 132, 133, 134, 135, 136, 137, 138, 139, 140, 141, 142, 143, 144, 145, 146, 147, 148, 149, 150, 151, 152, 153, 154] (by decide +kernel) (by decide +kernel)
set_option maxRecDepth 20000 in
theorem gX8_stem_X8_fifth : GoodIn wsX8_stem (wsV RX8 471 RX8 yX8_fifth wsX8_fifth) := goodIn_app (goodIn_of _ (by decide +kernel)) ggX8_stem_X8_fifth
theorem dX8_stem_0 : decode cX8_stem 0 = .ok (.aload_n 0, 1) := by decide +kernel
theorem dX8_stem_1 : decode cX8_stem 1 = .ok (.aload_n 0, 1) := by decide +kernel
theorem dX8_stem_2 : decode cX8_stem 2 = .ok (.getfield 41, 3) := by decide +kernel
theorem dX8_stem_5 : decode cX8_stem 5 = .ok (.iload_n 1, 1) := by decide +kernel
theorem dX8_stem_6 : decode cX8_stem 6 = .ok (.iaload, 1) := by decide +kernel
theorem dX8_stem_7 : decode cX8_stem 7 = .ok (.putfield 312, 3) := by decide +kernel
theorem dX8_stem_10 : decode cX8_stem 10 = .ok (.iconst 0, 1) := by decide +kernel
theorem dX8_stem_11 : decode cX8_stem 11 = .ok (.istore_n 2, 1) := by decide +kernel
theorem dX8_stem_12 : decode cX8_stem 12 = .ok (.iload_n 2, 1) := by decide +kernel
theorem dX8_stem_13 : decode cX8_stem 13 = .ok (.aload_n 0, 1) := by decide +kernel
theorem dX8_stem_14 : decode cX8_stem 14 = .ok (.getfield 312, 3) := by decide +kernel
theorem dX8_stem_17 : decode cX8_stem 17 = .ok (.if_icmp .ge 26, 3) := by decide +kernel
theorem dX8_stem_20 : decode cX8_stem 20 = .ok (.aload_n 0, 1) := by decide +kernel
theorem dX8_stem_21 : decode cX8_stem 21 = .ok (.getfield 57, 3) := by decide +kernel
theorem dX8_stem_24 : decode cX8_stem 24 = .ok (.iload_n 2, 1) := by decide +kernel
theorem dX8_stem_25 : decode cX8_stem 25 = .ok (.aload_n 0, 1) := by decide +kernel
theorem dX8_stem_26 : decode cX8_stem 26 = .ok (.getfield 51, 3) := by decide +kernel
theorem dX8_stem_29 : decode cX8_stem 29 = .ok (.bipush 30, 2) := by decide +kernel
theorem dX8_stem_31 : decode cX8_stem 31 = .ok (.iload_n 1, 1) := by decide +kernel
theorem dX8_stem_32 : decode cX8_stem 32 = .ok (.imul, 1) := by decide +kernel
theorem dX8_stem_33 : decode cX8_stem 33 = .ok (.iload_n 2, 1) := by decide +kernel
theorem dX8_stem_34 : decode cX8_stem 34 = .ok (.iadd, 1) := by decide +kernel
theorem dX8_stem_35 : decode cX8_stem 35 = .ok (.iaload, 1) := by decide +kernel
theorem dX8_stem_36 : decode cX8_stem 36 = .ok (.iastore, 1) := by decide +kernel
theorem dX8_stem_37 : decode cX8_stem 37 = .ok (.iinc 2 1, 3) := by decide +kernel
theorem dX8_stem_40 : decode cX8_stem 40 = .ok (.goto (-28), 3) := by decide +kernel
theorem dX8_stem_43 : decode cX8_stem 43 = .ok (.aload_n 0, 1) := by decide +kernel
theorem dX8_stem_44 : decode cX8_stem 44 = .ok (.invokevirtual 459, 3) := by decide +kernel
theorem dX8_stem_47 : decode cX8_stem 47 = .ok (.aload_n 0, 1) := by decide +kernel
theorem dX8_stem_48 : decode cX8_stem 48 = .ok (.invokevirtual 462, 3) := by decide +kernel
theorem dX8_stem_51 : decode cX8_stem 51 = .ok (.aload_n 0, 1) := by decide +kernel
theorem dX8_stem_52 : decode cX8_stem 52 = .ok (.invokevirtual 465, 3) := by decide +kernel
theorem dX8_stem_55 : decode cX8_stem 55 = .ok (.aload_n 0, 1) := by decide +kernel
theorem dX8_stem_56 : decode cX8_stem 56 = .ok (.invokevirtual 468, 3) := by decide +kernel
theorem dX8_stem_59 : decode cX8_stem 59 = .ok (.aload_n 0, 1) := by decide +kernel
theorem dX8_stem_60 : decode cX8_stem 60 = .ok (.invokevirtual 471, 3) := by decide +kernel
theorem dX8_stem_63 : decode cX8_stem 63 = .ok (.iconst 0, 1) := by decide +kernel
theorem dX8_stem_64 : decode cX8_stem 64 = .ok (.istore_n 2, 1) := by decide +kernel
theorem dX8_stem_65 : decode cX8_stem 65 = .ok (.iload_n 2, 1) := by decide +kernel
theorem dX8_stem_66 : decode cX8_stem 66 = .ok (.aload_n 0, 1) := by decide +kernel
theorem dX8_stem_67 : decode cX8_stem 67 = .ok (.getfield 312, 3) := by decide +kernel
theorem dX8_stem_70 : decode cX8_stem 70 = .ok (.if_icmp .ge 26, 3) := by decide +kernel
theorem dX8_stem_73 : decode cX8_stem 73 = .ok (.aload_n 0, 1) := by decide +kernel
theorem dX8_stem_74 : decode cX8_stem 74 = .ok (.getfield 54, 3) := by decide +kernel
theorem dX8_stem_77 : decode cX8_stem 77 = .ok (.bipush 30, 2) := by decide +kernel
theorem dX8_stem_79 : decode cX8_stem 79 = .ok (.iload_n 1, 1) := by decide +kernel
theorem dX8_stem_80 : decode cX8_stem 80 = .ok (.imul, 1) := by decide +kernel
theorem dX8_stem_81 : decode cX8_stem 81 = .ok (.iload_n 2, 1) := by decide +kernel
theorem dX8_stem_82 : decode cX8_stem 82 = .ok (.iadd, 1) := by decide +kernel
theorem dX8_stem_83 : decode cX8_stem 83 = .ok (.aload_n 0, 1) := by decide +kernel
theorem dX8_stem_84 : decode cX8_stem 84 = .ok (.getfield 57, 3) := by decide +kernel
theorem dX8_stem_87 : decode cX8_stem 87 = .ok (.iload_n 2, 1) := by decide +kernel
theorem dX8_stem_88 : decode cX8_stem 88 = .ok (.iaload, 1) := by decide +kernel
theorem dX8_stem_89 : decode cX8_stem 89 = .ok (.iastore, 1) := by decide +kernel
theorem dX8_stem_90 : decode cX8_stem 90 = .ok (.iinc 2 1, 3) := by decide +kernel
theorem dX8_stem_93 : decode cX8_stem 93 = .ok (.goto (-28), 3) := by decide +kernel
theorem dX8_stem_96 : decode cX8_stem 96 = .ok (.aload_n 0, 1) := by decide +kernel
theorem dX8_stem_97 : decode cX8_stem 97 = .ok (.getfield 44, 3) := by decide +kernel
theorem dX8_stem_100 : decode cX8_stem 100 = .ok (.iload_n 1, 1) := by decide +kernel
theorem dX8_stem_101 : decode cX8_stem 101 = .ok (.aload_n 0, 1) := by decide +kernel
theorem dX8_stem_102 : decode cX8_stem 102 = .ok (.getfield 312, 3) := by decide +kernel
theorem dX8_stem_105 : decode cX8_stem 105 = .ok (.iastore, 1) := by decide +kernel
theorem dX8_stem_106 : decode cX8_stem 106 = .ok (.return_, 1) := by decide +kernel
