set_option maxRecDepth 20000 in
theorem ggX0_tell_X0_commonDivisor : GoodIn wsX0_tell wsX0_commonDivisor := goodIn_r _ [9] (by decide +kernel) (by decide +kernel)
set_option maxRecDepth 20000 in
theorem gX0_tell_X0_commonDivisor : GoodIn wsX0_tell (va_wsS RX0 15 yX0_commonDivisor wsX0_commonDivisor) := goodIn_app (goodIn_of _ (by decide +kernel)) ggX0_tell_X0_commonDivisor
theorem dX0_tell_0 : decode cX0_tell 0 = .ok (.lload_n 0, 1) := by decide +kernel
theorem dX0_tell_1 : decode cX0_tell 1 = .ok (.invokestatic 9, 3) := by decide +kernel
theorem dX0_tell_4 : decode cX0_tell 4 = .ok (.lload_n 2, 1) := by decide +kernel
theorem dX0_tell_5 : decode cX0_tell 5 = .ok (.invokestatic 15, 3) := by decide +kernel
theorem dX0_tell_8 : decode cX0_tell 8 = .ok (.lstore 5, 2) := by decide +kernel
theorem dX0_tell_10 : decode cX0_tell 10 = .ok (.lload 5, 2) := by decide +kernel
theorem dX0_tell_12 : decode cX0_tell 12 = .ok (.lconst 1, 1) := by decide +kernel
theorem dX0_tell_13 : decode cX0_tell 13 = .ok (.lcmp, 1) := by decide +kernel
theorem dX0_tell_14 : decode cX0_tell 14 = .ok (.ifCond .ge 7, 3) := by decide +kernel
theorem dX0_tell_17 : decode cX0_tell 17 = .ok (.ldc2_w 21, 3) := by decide +kernel
theorem dX0_tell_20 : decode cX0_tell 20 = .ok (.lreturn, 1) := by decide +kernel
theorem dX0_tell_21 : decode cX0_tell 21 = .ok (.iload 4, 2) := by decide +kernel
theorem dX0_tell_23 : decode cX0_tell 23 = .ok (.ifCond .ne 7, 3) := by decide +kernel
theorem dX0_tell_26 : decode cX0_tell 26 = .ok (.lload_n 0, 1) := by decide +kernel
theorem dX0_tell_27 : decode cX0_tell 27 = .ok (.goto 4, 3) := by decide +kernel
theorem dX0_tell_30 : decode cX0_tell 30 = .ok (.lload_n 2, 1) := by decide +kernel
theorem dX0_tell_31 : decode cX0_tell 31 = .ok (.lload 5, 2) := by decide +kernel
theorem dX0_tell_33 : decode cX0_tell 33 = .ok (.ldiv, 1) := by decide +kernel
theorem dX0_tell_34 : decode cX0_tell 34 = .ok (.lreturn, 1) := by decide +kernel
theorem dX0_commonDivisor_0 : decode cX0_commonDivisor 0 = .ok (.lload_n 0, 1) := by decide +kernel
theorem dX0_commonDivisor_1 : decode cX0_commonDivisor 1 = .ok (.lstore 4, 2) := by decide +kernel
theorem dX0_commonDivisor_3 : decode cX0_commonDivisor 3 = .ok (.lload_n 2, 1) := by decide +kernel
theorem dX0_commonDivisor_4 : decode cX0_commonDivisor 4 = .ok (.lstore 6, 2) := by decide +kernel
theorem dX0_commonDivisor_6 : decode cX0_commonDivisor 6 = .ok (.iconst 0, 1) := by decide +kernel
theorem dX0_commonDivisor_7 : decode cX0_commonDivisor 7 = .ok (.istore 8, 2) := by decide +kernel
theorem dX0_commonDivisor_9 : decode cX0_commonDivisor 9 = .ok (.iload 8, 2) := by decide +kernel
theorem dX0_commonDivisor_11 : decode cX0_commonDivisor 11 = .ok (.sipush 200, 3) := by decide +kernel
theorem dX0_commonDivisor_14 : decode cX0_commonDivisor 14 = .ok (.if_icmp .ge 31, 3) := by decide +kernel
theorem dX0_commonDivisor_17 : decode cX0_commonDivisor 17 = .ok (.lload 6, 2) := by decide +kernel
theorem dX0_commonDivisor_19 : decode cX0_commonDivisor 19 = .ok (.lconst 0, 1) := by decide +kernel
theorem dX0_commonDivisor_20 : decode cX0_commonDivisor 20 = .ok (.lcmp, 1) := by decide +kernel
theorem dX0_commonDivisor_21 : decode cX0_commonDivisor 21 = .ok (.ifCond .eq 24, 3) := by decide +kernel
theorem dX0_commonDivisor_24 : decode cX0_commonDivisor 24 = .ok (.lload 4, 2) := by decide +kernel
theorem dX0_commonDivisor_26 : decode cX0_commonDivisor 26 = .ok (.lload 6, 2) := by decide +kernel
theorem dX0_commonDivisor_28 : decode cX0_commonDivisor 28 = .ok (.lrem, 1) := by decide +kernel
theorem dX0_commonDivisor_29 : decode cX0_commonDivisor 29 = .ok (.lstore 9, 2) := by decide +kernel
theorem dX0_commonDivisor_31 : decode cX0_commonDivisor 31 = .ok (.lload 6, 2) := by decide +kernel
theorem dX0_commonDivisor_33 : decode cX0_commonDivisor 33 = .ok (.lstore 4, 2) := by decide +kernel
theorem dX0_commonDivisor_35 : decode cX0_commonDivisor 35 = .ok (.lload 9, 2) := by decide +kernel
theorem dX0_commonDivisor_37 : decode cX0_commonDivisor 37 = .ok (.lstore 6, 2) := by decide +kernel
theorem dX0_commonDivisor_39 : decode cX0_commonDivisor 39 = .ok (.iinc 8 1, 3) := by decide +kernel
theorem dX0_commonDivisor_42 : decode cX0_commonDivisor 42 = .ok (.goto (-33), 3) := by decide +kernel
theorem dX0_commonDivisor_45 : decode cX0_commonDivisor 45 = .ok (.lload 4, 2) := by decide +kernel
theorem dX0_commonDivisor_47 : decode cX0_commonDivisor 47 = .ok (.lreturn, 1) := by decide +kernel
set_option maxRecDepth 20000 in
theorem ggX0_difference_X2_total : GoodIn wsX0_difference wsX2_total := goodIn_r _ [5, 6, 7, 8, 9, 10, 11, 12, 13, 14, 15, 16, 17, 18, 19, 20, 21, 22, 23, 4, 24, 25, 26, 27, 28, 29, 30, 31, 32, 33, 46, 47, 48, 49, 50, 51, 52, 53] (by decide +kernel) (by decide +kernel)
set_option maxRecDepth 20000 in
theorem gX0_difference_X2_total : GoodIn wsX0_difference (wsV RX0 23 RX2 yX2_total wsX2_total) := goodIn_app (goodIn_of _ (by decide +kernel)) ggX0_difference_X2_total
set_option maxRecDepth 20000 in
theorem ggX0_difference_X0_tell : GoodIn wsX0_difference wsX0_tell := goodIn_r _ [37, 38, 39, 40, 41, 42, 43, 44, 36, 45] (by decide +kernel) (by decide +kernel)
set_option maxRecDepth 20000 in
theorem gX0_difference_X0_tell : GoodIn wsX0_difference (va_wsS RX0 29 yX0_tell wsX0_tell) := goodIn_app (goodIn_of _ (by decide +kernel)) ggX0_difference_X0_tell
theorem dX0_difference_0 : decode cX0_difference 0 = .ok (.aload_n 0, 1) := by decide +kernel
theorem dX0_difference_1 : decode cX0_difference 1 = .ok (.iload_n 1, 1) := by decide +kernel
theorem dX0_difference_2 : decode cX0_difference 2 = .ok (.iconst 0, 1) := by decide +kernel
theorem dX0_difference_3 : decode cX0_difference 3 = .ok (.iconst 0, 1) := by decide +kernel
theorem dX0_difference_4 : decode cX0_difference 4 = .ok (.invokevirtual 23, 3) := by decide +kernel
theorem dX0_difference_7 : decode cX0_difference 7 = .ok (.i2l, 1) := by decide +kernel
theorem dX0_difference_8 : decode cX0_difference 8 = .ok (.lstore 4, 2) := by decide +kernel
theorem dX0_difference_10 : decode cX0_difference 10 = .ok (.aload_n 0, 1) := by decide +kernel
theorem dX0_difference_11 : decode cX0_difference 11 = .ok (.iload_n 1, 1) := by decide +kernel
theorem dX0_difference_12 : decode cX0_difference 12 = .ok (.iconst 1, 1) := by decide +kernel
theorem dX0_difference_13 : decode cX0_difference 13 = .ok (.iconst 0, 1) := by decide +kernel
theorem dX0_difference_14 : decode cX0_difference 14 = .ok (.invokevirtual 23, 3) := by decide +kernel
theorem dX0_difference_17 : decode cX0_difference 17 = .ok (.i2l, 1) := by decide +kernel
theorem dX0_difference_18 : decode cX0_difference 18 = .ok (.lstore 6, 2) := by decide +kernel
theorem dX0_difference_20 : decode cX0_difference 20 = .ok (.aload_n 0, 1) := by decide +kernel
theorem dX0_difference_21 : decode cX0_difference 21 = .ok (.iload_n 2, 1) := by decide +kernel
theorem dX0_difference_22 : decode cX0_difference 22 = .ok (.iconst 0, 1) := by decide +kernel
theorem dX0_difference_23 : decode cX0_difference 23 = .ok (.iconst 2, 1) := by decide +kernel
theorem dX0_difference_24 : decode cX0_difference 24 = .ok (.invokevirtual 23, 3) := by decide +kernel
theorem dX0_difference_27 : decode cX0_difference 27 = .ok (.i2l, 1) := by decide +kernel
theorem dX0_difference_28 : decode cX0_difference 28 = .ok (.lstore 8, 2) := by decide +kernel
theorem dX0_difference_30 : decode cX0_difference 30 = .ok (.aload_n 0, 1) := by decide +kernel
theorem dX0_difference_31 : decode cX0_difference 31 = .ok (.iload_n 2, 1) := by decide +kernel
theorem dX0_difference_32 : decode cX0_difference 32 = .ok (.iconst 1, 1) := by decide +kernel
theorem dX0_difference_33 : decode cX0_difference 33 = .ok (.iconst 2, 1) := by decide +kernel
theorem dX0_difference_34 : decode cX0_difference 34 = .ok (.invokevirtual 23, 3) := by decide +kernel
theorem dX0_difference_37 : decode cX0_difference 37 = .ok (.i2l, 1) := by decide +kernel
theorem dX0_difference_38 : decode cX0_difference 38 = .ok (.lstore 10, 2) := by decide +kernel
theorem dX0_difference_40 : decode cX0_difference 40 = .ok (.lload 6, 2) := by decide +kernel
theorem dX0_difference_42 : decode cX0_difference 42 = .ok (.lload 8, 2) := by decide +kernel
theorem dX0_difference_44 : decode cX0_difference 44 = .ok (.lmul, 1) := by decide +kernel
theorem dX0_difference_45 : decode cX0_difference 45 = .ok (.lload 4, 2) := by decide +kernel
theorem dX0_difference_47 : decode cX0_difference 47 = .ok (.lload 10, 2) := by decide +kernel
theorem dX0_difference_49 : decode cX0_difference 49 = .ok (.lmul, 1) := by decide +kernel
theorem dX0_difference_50 : decode cX0_difference 50 = .ok (.lsub, 1) := by decide +kernel
theorem dX0_difference_51 : decode cX0_difference 51 = .ok (.lload 8, 2) := by decide +kernel
theorem dX0_difference_53 : decode cX0_difference 53 = .ok (.lload 10, 2) := by decide +kernel
theorem dX0_difference_55 : decode cX0_difference 55 = .ok (.lmul, 1) := by decide +kernel
theorem dX0_difference_56 : decode cX0_difference 56 = .ok (.iload_n 3, 1) := by decide +kernel
theorem dX0_difference_57 : decode cX0_difference 57 = .ok (.invokestatic 29, 3) := by decide +kernel
theorem dX0_difference_60 : decode cX0_difference 60 = .ok (.lreturn, 1) := by decide +kernel
set_option maxRecDepth 20000 in
theorem ggX0_parted_X2_total : GoodIn wsX0_parted wsX2_total := goodIn_r _ [6, 7, 8, 9, 10, 11, 12, 13, 14, 15, 16, 17, 18, 19, 20, 21, 22, 23, 24, 5, 25, 26, 27, 28, 29, 30, 31, 32, 33, 34, 47, 48, 49, 50, 51, 52, 53, 54] (by decide +kernel) (by decide +kernel)
set_option maxRecDepth 20000 in
theorem gX0_parted_X2_total : GoodIn wsX0_parted (wsV RX0 23 RX2 yX2_total wsX2_total) := goodIn_app (goodIn_of _ (by decide +kernel)) ggX0_parted_X2_total
set_option maxRecDepth 20000 in
theorem ggX0_parted_X0_tell : GoodIn wsX0_parted wsX0_tell := goodIn_r _ [38, 39, 40, 41, 42, 43, 44, 45, 37, 46] (by decide +kernel) (by decide +kernel)
set_option maxRecDepth 20000 in
theorem gX0_parted_X0_tell : GoodIn wsX0_parted (va_wsS RX0 29 yX0_tell wsX0_tell) := goodIn_app (goodIn_of _ (by decide +kernel)) ggX0_parted_X0_tell
theorem dX0_parted_0 : decode cX0_parted 0 = .ok (.aload_n 0, 1) := by decide +kernel
theorem dX0_parted_1 : decode cX0_parted 1 = .ok (.iload_n 2, 1) := by decide +kernel
theorem dX0_parted_2 : decode cX0_parted 2 = .ok (.iconst 0, 1) := by decide +kernel
theorem dX0_parted_3 : decode cX0_parted 3 = .ok (.iconst 0, 1) := by decide +kernel
theorem dX0_parted_4 : decode cX0_parted 4 = .ok (.invokevirtual 23, 3) := by decide +kernel
theorem dX0_parted_7 : decode cX0_parted 7 = .ok (.i2l, 1) := by decide +kernel
theorem dX0_parted_8 : decode cX0_parted 8 = .ok (.lstore 5, 2) := by decide +kernel
theorem dX0_parted_10 : decode cX0_parted 10 = .ok (.aload_n 0, 1) := by decide +kernel
theorem dX0_parted_11 : decode cX0_parted 11 = .ok (.iload_n 2, 1) := by decide +kernel
theorem dX0_parted_12 : decode cX0_parted 12 = .ok (.iconst 1, 1) := by decide +kernel
theorem dX0_parted_13 : decode cX0_parted 13 = .ok (.iconst 0, 1) := by decide +kernel
theorem dX0_parted_14 : decode cX0_parted 14 = .ok (.invokevirtual 23, 3) := by decide +kernel
theorem dX0_parted_17 : decode cX0_parted 17 = .ok (.i2l, 1) := by decide +kernel
theorem dX0_parted_18 : decode cX0_parted 18 = .ok (.lstore 7, 2) := by decide +kernel
theorem dX0_parted_20 : decode cX0_parted 20 = .ok (.aload_n 0, 1) := by decide +kernel
theorem dX0_parted_21 : decode cX0_parted 21 = .ok (.iload_n 2, 1) := by decide +kernel
theorem dX0_parted_22 : decode cX0_parted 22 = .ok (.iconst 0, 1) := by decide +kernel
theorem dX0_parted_23 : decode cX0_parted 23 = .ok (.iconst 2, 1) := by decide +kernel
theorem dX0_parted_24 : decode cX0_parted 24 = .ok (.invokevirtual 23, 3) := by decide +kernel
theorem dX0_parted_27 : decode cX0_parted 27 = .ok (.i2l, 1) := by decide +kernel
theorem dX0_parted_28 : decode cX0_parted 28 = .ok (.lstore 9, 2) := by decide +kernel
theorem dX0_parted_30 : decode cX0_parted 30 = .ok (.aload_n 0, 1) := by decide +kernel
theorem dX0_parted_31 : decode cX0_parted 31 = .ok (.iload_n 2, 1) := by decide +kernel
theorem dX0_parted_32 : decode cX0_parted 32 = .ok (.iconst 1, 1) := by decide +kernel
theorem dX0_parted_33 : decode cX0_parted 33 = .ok (.iconst 2, 1) := by decide +kernel
theorem dX0_parted_34 : decode cX0_parted 34 = .ok (.invokevirtual 23, 3) := by decide +kernel
theorem dX0_parted_37 : decode cX0_parted 37 = .ok (.i2l, 1) := by decide +kernel
theorem dX0_parted_38 : decode cX0_parted 38 = .ok (.lstore 11, 2) := by decide +kernel
theorem dX0_parted_40 : decode cX0_parted 40 = .ok (.aload_n 0, 1) := by decide +kernel
theorem dX0_parted_41 : decode cX0_parted 41 = .ok (.iload_n 1, 1) := by decide +kernel
theorem dX0_parted_42 : decode cX0_parted 42 = .ok (.iconst 0, 1) := by decide +kernel
theorem dX0_parted_43 : decode cX0_parted 43 = .ok (.iconst 2, 1) := by decide +kernel
theorem dX0_parted_44 : decode cX0_parted 44 = .ok (.invokevirtual 23, 3) := by decide +kernel
theorem dX0_parted_47 : decode cX0_parted 47 = .ok (.i2l, 1) := by decide +kernel
theorem dX0_parted_48 : decode cX0_parted 48 = .ok (.lstore 13, 2) := by decide +kernel
theorem dX0_parted_50 : decode cX0_parted 50 = .ok (.aload_n 0, 1) := by decide +kernel
theorem dX0_parted_51 : decode cX0_parted 51 = .ok (.iload_n 1, 1) := by decide +kernel
theorem dX0_parted_52 : decode cX0_parted 52 = .ok (.iconst 1, 1) := by decide +kernel
theorem dX0_parted_53 : decode cX0_parted 53 = .ok (.iconst 2, 1) := by decide +kernel
theorem dX0_parted_54 : decode cX0_parted 54 = .ok (.invokevirtual 23, 3) := by decide +kernel
theorem dX0_parted_57 : decode cX0_parted 57 = .ok (.i2l, 1) := by decide +kernel
theorem dX0_parted_58 : decode cX0_parted 58 = .ok (.lstore 15, 2) := by decide +kernel
theorem dX0_parted_60 : decode cX0_parted 60 = .ok (.ldc2_w 33, 3) := by decide +kernel
theorem dX0_parted_63 : decode cX0_parted 63 = .ok (.lload 9, 2) := by decide +kernel
theorem dX0_parted_65 : decode cX0_parted 65 = .ok (.lmul, 1) := by decide +kernel
theorem dX0_parted_66 : decode cX0_parted 66 = .ok (.lload 11, 2) := by decide +kernel
theorem dX0_parted_68 : decode cX0_parted 68 = .ok (.lmul, 1) := by decide +kernel
theorem dX0_parted_69 : decode cX0_parted 69 = .ok (.lload 13, 2) := by decide +kernel
theorem dX0_parted_71 : decode cX0_parted 71 = .ok (.lmul, 1) := by decide +kernel
theorem dX0_parted_72 : decode cX0_parted 72 = .ok (.lload 15, 2) := by decide +kernel
theorem dX0_parted_74 : decode cX0_parted 74 = .ok (.lmul, 1) := by decide +kernel
theorem dX0_parted_75 : decode cX0_parted 75 = .ok (.lstore 17, 2) := by decide +kernel
theorem dX0_parted_77 : decode cX0_parted 77 = .ok (.iload_n 3, 1) := by decide +kernel
theorem dX0_parted_78 : decode cX0_parted 78 = .ok (.ifCond .ne 29, 3) := by decide +kernel
theorem dX0_parted_81 : decode cX0_parted 81 = .ok (.lload 7, 2) := by decide +kernel
theorem dX0_parted_83 : decode cX0_parted 83 = .ok (.lload 9, 2) := by decide +kernel
theorem dX0_parted_85 : decode cX0_parted 85 = .ok (.lmul, 1) := by decide +kernel
theorem dX0_parted_86 : decode cX0_parted 86 = .ok (.lload 5, 2) := by decide +kernel
theorem dX0_parted_88 : decode cX0_parted 88 = .ok (.lload 11, 2) := by decide +kernel
theorem dX0_parted_90 : decode cX0_parted 90 = .ok (.lmul, 1) := by decide +kernel
theorem dX0_parted_91 : decode cX0_parted 91 = .ok (.lsub, 1) := by decide +kernel
theorem dX0_parted_92 : decode cX0_parted 92 = .ok (.lload 9, 2) := by decide +kernel
theorem dX0_parted_94 : decode cX0_parted 94 = .ok (.lload 15, 2) := by decide +kernel
theorem dX0_parted_96 : decode cX0_parted 96 = .ok (.lmul, 1) := by decide +kernel
theorem dX0_parted_97 : decode cX0_parted 97 = .ok (.lload 11, 2) := by decide +kernel
theorem dX0_parted_99 : decode cX0_parted 99 = .ok (.lload 13, 2) := by decide +kernel
theorem dX0_parted_101 : decode cX0_parted 101 = .ok (.lmul, 1) := by decide +kernel
theorem dX0_parted_102 : decode cX0_parted 102 = .ok (.ladd, 1) := by decide +kernel
theorem dX0_parted_103 : decode cX0_parted 103 = .ok (.lmul, 1) := by decide +kernel
theorem dX0_parted_104 : decode cX0_parted 104 = .ok (.goto 26, 3) := by decide +kernel
theorem dX0_parted_107 : decode cX0_parted 107 = .ok (.lload 11, 2) := by decide +kernel
theorem dX0_parted_109 : decode cX0_parted 109 = .ok (.lload 13, 2) := by decide +kernel
theorem dX0_parted_111 : decode cX0_parted 111 = .ok (.lmul, 1) := by decide +kernel
theorem dX0_parted_112 : decode cX0_parted 112 = .ok (.lload 9, 2) := by decide +kernel
theorem dX0_parted_114 : decode cX0_parted 114 = .ok (.lload 15, 2) := by decide +kernel
theorem dX0_parted_116 : decode cX0_parted 116 = .ok (.lmul, 1) := by decide +kernel
theorem dX0_parted_117 : decode cX0_parted 117 = .ok (.lsub, 1) := by decide +kernel
theorem dX0_parted_118 : decode cX0_parted 118 = .ok (.lload 5, 2) := by decide +kernel
theorem dX0_parted_120 : decode cX0_parted 120 = .ok (.lload 11, 2) := by decide +kernel
theorem dX0_parted_122 : decode cX0_parted 122 = .ok (.lmul, 1) := by decide +kernel
theorem dX0_parted_123 : decode cX0_parted 123 = .ok (.lload 7, 2) := by decide +kernel
theorem dX0_parted_125 : decode cX0_parted 125 = .ok (.lload 9, 2) := by decide +kernel
theorem dX0_parted_127 : decode cX0_parted 127 = .ok (.lmul, 1) := by decide +kernel
theorem dX0_parted_128 : decode cX0_parted 128 = .ok (.ladd, 1) := by decide +kernel
theorem dX0_parted_129 : decode cX0_parted 129 = .ok (.lmul, 1) := by decide +kernel
theorem dX0_parted_130 : decode cX0_parted 130 = .ok (.lstore 19, 2) := by decide +kernel
theorem dX0_parted_132 : decode cX0_parted 132 = .ok (.lload 19, 2) := by decide +kernel
theorem dX0_parted_134 : decode cX0_parted 134 = .ok (.lload 17, 2) := by decide +kernel
theorem dX0_parted_136 : decode cX0_parted 136 = .ok (.iload 4, 2) := by decide +kernel
theorem dX0_parted_138 : decode cX0_parted 138 = .ok (.invokestatic 29, 3) := by decide +kernel
theorem dX0_parted_141 : decode cX0_parted 141 = .ok (.lreturn, 1) := by decide +kernel
set_option maxRecDepth 20000 in
theorem ggX1_has_X5_isIn : GoodIn wsX1_has wsX5_isIn := goodIn_r _ [3] (by decide +kernel) (by decide +kernel)
set_option maxRecDepth 20000 in
theorem gX1_has_X5_isIn_n9 : GoodIn wsX1_has (wsX5_isIn) := ggX1_has_X5_isIn
theorem dX1_has_0 : decode cX1_has 0 = .ok (.iload_n 0, 1) := by decide +kernel
theorem dX1_has_1 : decode cX1_has 1 = .ok (.iconst 0, 1) := by decide +kernel
theorem dX1_has_2 : decode cX1_has 2 = .ok (.sipush 728, 3) := by decide +kernel
theorem dX1_has_5 : decode cX1_has 5 = .ok (.invokestatic 9, 3) := by decide +kernel
theorem dX1_has_8 : decode cX1_has 8 = .ok (.ireturn, 1) := by decide +kernel
theorem dX1_digit_0 : decode cX1_digit 0 = .ok (.iload_n 1, 1) := by decide +kernel
theorem dX1_digit_1 : decode cX1_digit 1 = .ok (.ifCond .ne 10, 3) := by decide +kernel
theorem dX1_digit_4 : decode cX1_digit 4 = .ok (.iload_n 0, 1) := by decide +kernel
theorem dX1_digit_5 : decode cX1_digit 5 = .ok (.bipush 9, 2) := by decide +kernel
theorem dX1_digit_7 : decode cX1_digit 7 = .ok (.irem, 1) := by decide +kernel
theorem dX1_digit_8 : decode cX1_digit 8 = .ok (.goto 22, 3) := by decide +kernel
theorem dX1_digit_11 : decode cX1_digit 11 = .ok (.iload_n 1, 1) := by decide +kernel
theorem dX1_digit_12 : decode cX1_digit 12 = .ok (.iconst 1, 1) := by decide +kernel
theorem dX1_digit_13 : decode cX1_digit 13 = .ok (.if_icmp .ne 13, 3) := by decide +kernel
theorem dX1_digit_16 : decode cX1_digit 16 = .ok (.iload_n 0, 1) := by decide +kernel
theorem dX1_digit_17 : decode cX1_digit 17 = .ok (.bipush 9, 2) := by decide +kernel
theorem dX1_digit_19 : decode cX1_digit 19 = .ok (.idiv, 1) := by decide +kernel
theorem dX1_digit_20 : decode cX1_digit 20 = .ok (.bipush 9, 2) := by decide +kernel
theorem dX1_digit_22 : decode cX1_digit 22 = .ok (.irem, 1) := by decide +kernel
theorem dX1_digit_23 : decode cX1_digit 23 = .ok (.goto 7, 3) := by decide +kernel
theorem dX1_digit_26 : decode cX1_digit 26 = .ok (.iload_n 0, 1) := by decide +kernel
theorem dX1_digit_27 : decode cX1_digit 27 = .ok (.bipush 81, 2) := by decide +kernel
theorem dX1_digit_29 : decode cX1_digit 29 = .ok (.idiv, 1) := by decide +kernel
theorem dX1_digit_30 : decode cX1_digit 30 = .ok (.ireturn, 1) := by decide +kernel
set_option maxRecDepth 20000 in
theorem ggX1_isOpen_X1_has : GoodIn wsX1_isOpen wsX1_has := goodIn_r _ [4, 5, 6, 7] (by decide +kernel) (by decide +kernel)
set_option maxRecDepth 20000 in
theorem gX1_isOpen_X1_has : GoodIn wsX1_isOpen (va_wsS RX1 13 yX1_has wsX1_has) := goodIn_app (goodIn_of _ (by decide +kernel)) ggX1_isOpen_X1_has
set_option maxRecDepth 20000 in
theorem ggX1_isOpen_X5_isIn : GoodIn wsX1_isOpen wsX5_isIn := goodIn_r _ [7] (by decide +kernel) (by decide +kernel)
set_option maxRecDepth 20000 in
theorem gX1_isOpen_X5_isIn_n9 : GoodIn wsX1_isOpen (wsX5_isIn) := ggX1_isOpen_X5_isIn
set_option maxRecDepth 20000 in
theorem ggX1_isOpen_X1_digit : GoodIn wsX1_isOpen wsX1_digit := goodIn_r _ [10] (by decide +kernel) (by decide +kernel)
set_option maxRecDepth 20000 in
theorem gX1_isOpen_X1_digit : GoodIn wsX1_isOpen (va_wsS RX1 19 yX1_digit wsX1_digit) := goodIn_app (goodIn_of _ (by decide +kernel)) ggX1_isOpen_X1_digit
theorem dX1_isOpen_0 : decode cX1_isOpen 0 = .ok (.iload_n 0, 1) := by decide +kernel
theorem dX1_isOpen_1 : decode cX1_isOpen 1 = .ok (.invokestatic 13, 3) := by decide +kernel
theorem dX1_isOpen_4 : decode cX1_isOpen 4 = .ok (.ifCond .eq 24, 3) := by decide +kernel
theorem dX1_isOpen_7 : decode cX1_isOpen 7 = .ok (.iload_n 1, 1) := by decide +kernel
theorem dX1_isOpen_8 : decode cX1_isOpen 8 = .ok (.iconst 0, 1) := by decide +kernel
theorem dX1_isOpen_9 : decode cX1_isOpen 9 = .ok (.iconst 2, 1) := by decide +kernel
theorem dX1_isOpen_10 : decode cX1_isOpen 10 = .ok (.invokestatic 9, 3) := by decide +kernel
theorem dX1_isOpen_13 : decode cX1_isOpen 13 = .ok (.ifCond .eq 15, 3) := by decide +kernel
theorem dX1_isOpen_16 : decode cX1_isOpen 16 = .ok (.iload_n 0, 1) := by decide +kernel
theorem dX1_isOpen_17 : decode cX1_isOpen 17 = .ok (.iload_n 1, 1) := by decide +kernel
theorem dX1_isOpen_18 : decode cX1_isOpen 18 = .ok (.invokestatic 19, 3) := by decide +kernel
theorem dX1_isOpen_21 : decode cX1_isOpen 21 = .ok (.ifCond .ne 7, 3) := by decide +kernel
theorem dX1_isOpen_24 : decode cX1_isOpen 24 = .ok (.iconst 1, 1) := by decide +kernel
theorem dX1_isOpen_25 : decode cX1_isOpen 25 = .ok (.goto 4, 3) := by decide +kernel
theorem dX1_isOpen_28 : decode cX1_isOpen 28 = .ok (.iconst 0, 1) := by decide +kernel
theorem dX1_isOpen_29 : decode cX1_isOpen 29 = .ok (.ireturn, 1) := by decide +kernel
set_option maxRecDepth 20000 in
theorem ggX1_withTest_X1_isOpen : GoodIn wsX1_withTest wsX1_isOpen := goodIn_r _ [5, 6, 7, 4, 8, 9, 10, 11, 12, 13, 14] (by decide +kernel) (by decide +kernel)
set_option maxRecDepth 20000 in
theorem gX1_withTest_X1_isOpen : GoodIn wsX1_withTest (va_wsS RX1 23 yX1_isOpen wsX1_isOpen) := goodIn_app (goodIn_of _ (by decide +kernel)) ggX1_withTest_X1_isOpen
theorem dX1_withTest_0 : decode cX1_withTest 0 = .ok (.iload_n 0, 1) := by decide +kernel
theorem dX1_withTest_1 : decode cX1_withTest 1 = .ok (.iload_n 1, 1) := by decide +kernel
theorem dX1_withTest_2 : decode cX1_withTest 2 = .ok (.invokestatic 23, 3) := by decide +kernel
theorem dX1_withTest_5 : decode cX1_withTest 5 = .ok (.ifCond .eq 17, 3) := by decide +kernel
theorem dX1_withTest_8 : decode cX1_withTest 8 = .ok (.iload_n 0, 1) := by decide +kernel
theorem dX1_withTest_9 : decode cX1_withTest 9 = .ok (.iload_n 2, 1) := by decide +kernel
theorem dX1_withTest_10 : decode cX1_withTest 10 = .ok (.iconst 1, 1) := by decide +kernel
theorem dX1_withTest_11 : decode cX1_withTest 11 = .ok (.iadd, 1) := by decide +kernel
theorem dX1_withTest_12 : decode cX1_withTest 12 = .ok (.getstatic 27, 3) := by decide +kernel
theorem dX1_withTest_15 : decode cX1_withTest 15 = .ok (.iload_n 1, 1) := by decide +kernel
theorem dX1_withTest_16 : decode cX1_withTest 16 = .ok (.iaload, 1) := by decide +kernel
theorem dX1_withTest_17 : decode cX1_withTest 17 = .ok (.imul, 1) := by decide +kernel
theorem dX1_withTest_18 : decode cX1_withTest 18 = .ok (.iadd, 1) := by decide +kernel
theorem dX1_withTest_19 : decode cX1_withTest 19 = .ok (.goto 4, 3) := by decide +kernel
theorem dX1_withTest_22 : decode cX1_withTest 22 = .ok (.iload_n 0, 1) := by decide +kernel
theorem dX1_withTest_23 : decode cX1_withTest 23 = .ok (.ireturn, 1) := by decide +kernel
set_option maxRecDepth 20000 in
theorem ggX1_tests_X1_digit : GoodIn wsX1_tests wsX1_digit := goodIn_r _ [4] (by decide +kernel) (by decide +kernel)
set_option maxRecDepth 20000 in
theorem gX1_tests_X1_digit : GoodIn wsX1_tests (va_wsS RX1 19 yX1_digit wsX1_digit) := goodIn_app (goodIn_of _ (by decide +kernel)) ggX1_tests_X1_digit
theorem dX1_tests_0 : decode cX1_tests 0 = .ok (.iconst 0, 1) := by decide +kernel
theorem dX1_tests_1 : decode cX1_tests 1 = .ok (.istore_n 1, 1) := by decide +kernel
theorem dX1_tests_2 : decode cX1_tests 2 = .ok (.iconst 0, 1) := by decide +kernel
theorem dX1_tests_3 : decode cX1_tests 3 = .ok (.istore_n 2, 1) := by decide +kernel
theorem dX1_tests_4 : decode cX1_tests 4 = .ok (.iload_n 2, 1) := by decide +kernel
theorem dX1_tests_5 : decode cX1_tests 5 = .ok (.iconst 3, 1) := by decide +kernel
theorem dX1_tests_6 : decode cX1_tests 6 = .ok (.if_icmp .ge 20, 3) := by decide +kernel
theorem dX1_tests_9 : decode cX1_tests 9 = .ok (.iload_n 0, 1) := by decide +kernel
theorem dX1_tests_10 : decode cX1_tests 10 = .ok (.iload_n 2, 1) := by decide +kernel
theorem dX1_tests_11 : decode cX1_tests 11 = .ok (.invokestatic 19, 3) := by decide +kernel
theorem dX1_tests_14 : decode cX1_tests 14 = .ok (.ifCond .eq 6, 3) := by decide +kernel
theorem dX1_tests_17 : decode cX1_tests 17 = .ok (.iinc 1 1, 3) := by decide +kernel
theorem dX1_tests_20 : decode cX1_tests 20 = .ok (.iinc 2 1, 3) := by decide +kernel
theorem dX1_tests_23 : decode cX1_tests 23 = .ok (.goto (-19), 3) := by decide +kernel
theorem dX1_tests_26 : decode cX1_tests 26 = .ok (.iload_n 1, 1) := by decide +kernel
theorem dX1_tests_27 : decode cX1_tests 27 = .ok (.ireturn, 1) := by decide +kernel
set_option maxRecDepth 20000 in
theorem ggX1_testedBits_X1_digit : GoodIn wsX1_testedBits wsX1_digit := goodIn_r _ [4] (by decide +kernel) (by decide +kernel)
set_option maxRecDepth 20000 in
theorem gX1_testedBits_X1_digit : GoodIn wsX1_testedBits (va_wsS RX1 19 yX1_digit wsX1_digit) := goodIn_app (goodIn_of _ (by decide +kernel)) ggX1_testedBits_X1_digit
theorem dX1_testedBits_0 : decode cX1_testedBits 0 = .ok (.iconst 0, 1) := by decide +kernel
theorem dX1_testedBits_1 : decode cX1_testedBits 1 = .ok (.istore_n 1, 1) := by decide +kernel
theorem dX1_testedBits_2 : decode cX1_testedBits 2 = .ok (.iconst 0, 1) := by decide +kernel
theorem dX1_testedBits_3 : decode cX1_testedBits 3 = .ok (.istore_n 2, 1) := by decide +kernel
theorem dX1_testedBits_4 : decode cX1_testedBits 4 = .ok (.iload_n 2, 1) := by decide +kernel
theorem dX1_testedBits_5 : decode cX1_testedBits 5 = .ok (.iconst 3, 1) := by decide +kernel
theorem dX1_testedBits_6 : decode cX1_testedBits 6 = .ok (.if_icmp .ge 26, 3) := by decide +kernel
theorem dX1_testedBits_9 : decode cX1_testedBits 9 = .ok (.iload_n 0, 1) := by decide +kernel
theorem dX1_testedBits_10 : decode cX1_testedBits 10 = .ok (.iload_n 2, 1) := by decide +kernel
theorem dX1_testedBits_11 : decode cX1_testedBits 11 = .ok (.invokestatic 19, 3) := by decide +kernel
theorem dX1_testedBits_14 : decode cX1_testedBits 14 = .ok (.ifCond .eq 12, 3) := by decide +kernel
theorem dX1_testedBits_17 : decode cX1_testedBits 17 = .ok (.iload_n 1, 1) := by decide +kernel
theorem dX1_testedBits_18 : decode cX1_testedBits 18 = .ok (.bipush 7, 2) := by decide +kernel
theorem dX1_testedBits_20 : decode cX1_testedBits 20 = .ok (.iconst 3, 1) := by decide +kernel
theorem dX1_testedBits_21 : decode cX1_testedBits 21 = .ok (.iload_n 2, 1) := by decide +kernel
theorem dX1_testedBits_22 : decode cX1_testedBits 22 = .ok (.imul, 1) := by decide +kernel
theorem dX1_testedBits_23 : decode cX1_testedBits 23 = .ok (.ishl, 1) := by decide +kernel
theorem dX1_testedBits_24 : decode cX1_testedBits 24 = .ok (.ior, 1) := by decide +kernel
theorem dX1_testedBits_25 : decode cX1_testedBits 25 = .ok (.istore_n 1, 1) := by decide +kernel
theorem dX1_testedBits_26 : decode cX1_testedBits 26 = .ok (.iinc 2 1, 3) := by decide +kernel
theorem dX1_testedBits_29 : decode cX1_testedBits 29 = .ok (.goto (-25), 3) := by decide +kernel
theorem dX1_testedBits_32 : decode cX1_testedBits 32 = .ok (.iload_n 1, 1) := by decide +kernel
theorem dX1_testedBits_33 : decode cX1_testedBits 33 = .ok (.ireturn, 1) := by decide +kernel
set_option maxRecDepth 20000 in
theorem ggX1_wantedBits_X1_digit : GoodIn wsX1_wantedBits wsX1_digit := goodIn_r _ [4] (by decide +kernel) (by decide +kernel)
set_option maxRecDepth 20000 in
theorem gX1_wantedBits_X1_digit : GoodIn wsX1_wantedBits (va_wsS RX1 19 yX1_digit wsX1_digit) := goodIn_app (goodIn_of _ (by decide +kernel)) ggX1_wantedBits_X1_digit
theorem dX1_wantedBits_0 : decode cX1_wantedBits 0 = .ok (.iconst 0, 1) := by decide +kernel
theorem dX1_wantedBits_1 : decode cX1_wantedBits 1 = .ok (.istore_n 1, 1) := by decide +kernel
theorem dX1_wantedBits_2 : decode cX1_wantedBits 2 = .ok (.iconst 0, 1) := by decide +kernel
theorem dX1_wantedBits_3 : decode cX1_wantedBits 3 = .ok (.istore_n 2, 1) := by decide +kernel
theorem dX1_wantedBits_4 : decode cX1_wantedBits 4 = .ok (.iload_n 2, 1) := by decide +kernel
theorem dX1_wantedBits_5 : decode cX1_wantedBits 5 = .ok (.iconst 3, 1) := by decide +kernel
theorem dX1_wantedBits_6 : decode cX1_wantedBits 6 = .ok (.if_icmp .ge 31, 3) := by decide +kernel
theorem dX1_wantedBits_9 : decode cX1_wantedBits 9 = .ok (.iload_n 0, 1) := by decide +kernel
theorem dX1_wantedBits_10 : decode cX1_wantedBits 10 = .ok (.iload_n 2, 1) := by decide +kernel
theorem dX1_wantedBits_11 : decode cX1_wantedBits 11 = .ok (.invokestatic 19, 3) := by decide +kernel
theorem dX1_wantedBits_14 : decode cX1_wantedBits 14 = .ok (.ifCond .eq 17, 3) := by decide +kernel
theorem dX1_wantedBits_17 : decode cX1_wantedBits 17 = .ok (.iload_n 1, 1) := by decide +kernel
theorem dX1_wantedBits_18 : decode cX1_wantedBits 18 = .ok (.iload_n 0, 1) := by decide +kernel
theorem dX1_wantedBits_19 : decode cX1_wantedBits 19 = .ok (.iload_n 2, 1) := by decide +kernel
theorem dX1_wantedBits_20 : decode cX1_wantedBits 20 = .ok (.invokestatic 19, 3) := by decide +kernel
theorem dX1_wantedBits_23 : decode cX1_wantedBits 23 = .ok (.iconst 1, 1) := by decide +kernel
theorem dX1_wantedBits_24 : decode cX1_wantedBits 24 = .ok (.isub, 1) := by decide +kernel
theorem dX1_wantedBits_25 : decode cX1_wantedBits 25 = .ok (.iconst 3, 1) := by decide +kernel
theorem dX1_wantedBits_26 : decode cX1_wantedBits 26 = .ok (.iload_n 2, 1) := by decide +kernel
theorem dX1_wantedBits_27 : decode cX1_wantedBits 27 = .ok (.imul, 1) := by decide +kernel
theorem dX1_wantedBits_28 : decode cX1_wantedBits 28 = .ok (.ishl, 1) := by decide +kernel
theorem dX1_wantedBits_29 : decode cX1_wantedBits 29 = .ok (.ior, 1) := by decide +kernel
theorem dX1_wantedBits_30 : decode cX1_wantedBits 30 = .ok (.istore_n 1, 1) := by decide +kernel
theorem dX1_wantedBits_31 : decode cX1_wantedBits 31 = .ok (.iinc 2 1, 3) := by decide +kernel
theorem dX1_wantedBits_34 : decode cX1_wantedBits 34 = .ok (.goto (-30), 3) := by decide +kernel
theorem dX1_wantedBits_37 : decode cX1_wantedBits 37 = .ok (.iload_n 1, 1) := by decide +kernel
theorem dX1_wantedBits_38 : decode cX1_wantedBits 38 = .ok (.ireturn, 1) := by decide +kernel
theorem dX2_init_0 : decode cX2_init 0 = .ok (.aload_n 0, 1) := by decide +kernel
theorem dX2_init_1 : decode cX2_init 1 = .ok (.invokespecial 3, 3) := by decide +kernel
theorem dX2_init_4 : decode cX2_init 4 = .ok (.aload_n 0, 1) := by decide +kernel
theorem dX2_init_5 : decode cX2_init 5 = .ok (.bipush 120, 2) := by decide +kernel
theorem dX2_init_7 : decode cX2_init 7 = .ok (.newarray .int, 2) := by decide +kernel
theorem dX2_init_9 : decode cX2_init 9 = .ok (.putfield 9, 3) := by decide +kernel
theorem dX2_init_12 : decode cX2_init 12 = .ok (.aload_n 0, 1) := by decide +kernel
theorem dX2_init_13 : decode cX2_init 13 = .ok (.bipush 120, 2) := by decide +kernel
theorem dX2_init_15 : decode cX2_init 15 = .ok (.newarray .int, 2) := by decide +kernel
theorem dX2_init_17 : decode cX2_init 17 = .ok (.putfield 15, 3) := by decide +kernel
theorem dX2_init_20 : decode cX2_init 20 = .ok (.aload_n 0, 1) := by decide +kernel
theorem dX2_init_21 : decode cX2_init 21 = .ok (.bipush 120, 2) := by decide +kernel
theorem dX2_init_23 : decode cX2_init 23 = .ok (.newarray .int, 2) := by decide +kernel
theorem dX2_init_25 : decode cX2_init 25 = .ok (.putfield 18, 3) := by decide +kernel
theorem dX2_init_28 : decode cX2_init 28 = .ok (.aload_n 0, 1) := by decide +kernel
theorem dX2_init_29 : decode cX2_init 29 = .ok (.bipush 120, 2) := by decide +kernel
theorem dX2_init_31 : decode cX2_init 31 = .ok (.newarray .int, 2) := by decide +kernel
theorem dX2_init_33 : decode cX2_init 33 = .ok (.putfield 21, 3) := by decide +kernel
theorem dX2_init_36 : decode cX2_init 36 = .ok (.aload_n 0, 1) := by decide +kernel
theorem dX2_init_37 : decode cX2_init 37 = .ok (.bipush 120, 2) := by decide +kernel
theorem dX2_init_39 : decode cX2_init 39 = .ok (.newarray .int, 2) := by decide +kernel
theorem dX2_init_41 : decode cX2_init 41 = .ok (.putfield 24, 3) := by decide +kernel
theorem dX2_init_44 : decode cX2_init 44 = .ok (.aload_n 0, 1) := by decide +kernel
theorem dX2_init_45 : decode cX2_init 45 = .ok (.bipush 120, 2) := by decide +kernel
theorem dX2_init_47 : decode cX2_init 47 = .ok (.newarray .int, 2) := by decide +kernel
theorem dX2_init_49 : decode cX2_init 49 = .ok (.putfield 27, 3) := by decide +kernel
theorem dX2_init_52 : decode cX2_init 52 = .ok (.aload_n 0, 1) := by decide +kernel
theorem dX2_init_53 : decode cX2_init 53 = .ok (.bipush 120, 2) := by decide +kernel
theorem dX2_init_55 : decode cX2_init 55 = .ok (.newarray .int, 2) := by decide +kernel
theorem dX2_init_57 : decode cX2_init 57 = .ok (.putfield 30, 3) := by decide +kernel
theorem dX2_init_60 : decode cX2_init 60 = .ok (.aload_n 0, 1) := by decide +kernel
theorem dX2_init_61 : decode cX2_init 61 = .ok (.iconst 0, 1) := by decide +kernel
theorem dX2_init_62 : decode cX2_init 62 = .ok (.putfield 33, 3) := by decide +kernel
theorem dX2_init_65 : decode cX2_init 65 = .ok (.return_, 1) := by decide +kernel
theorem dX2_size_0 : decode cX2_size 0 = .ok (.aload_n 0, 1) := by decide +kernel
theorem dX2_size_1 : decode cX2_size 1 = .ok (.getfield 33, 3) := by decide +kernel
theorem dX2_size_4 : decode cX2_size 4 = .ok (.ireturn, 1) := by decide +kernel
theorem dX2_isFull_0 : decode cX2_isFull 0 = .ok (.aload_n 0, 1) := by decide +kernel
theorem dX2_isFull_1 : decode cX2_isFull 1 = .ok (.getfield 33, 3) := by decide +kernel
theorem dX2_isFull_4 : decode cX2_isFull 4 = .ok (.bipush 120, 2) := by decide +kernel
theorem dX2_isFull_6 : decode cX2_isFull 6 = .ok (.if_icmp .lt 7, 3) := by decide +kernel
theorem dX2_isFull_9 : decode cX2_isFull 9 = .ok (.iconst 1, 1) := by decide +kernel
theorem dX2_isFull_10 : decode cX2_isFull 10 = .ok (.goto 4, 3) := by decide +kernel
theorem dX2_isFull_13 : decode cX2_isFull 13 = .ok (.iconst 0, 1) := by decide +kernel
theorem dX2_isFull_14 : decode cX2_isFull 14 = .ok (.ireturn, 1) := by decide +kernel
theorem dX2_has_0 : decode cX2_has 0 = .ok (.iload_n 1, 1) := by decide +kernel
theorem dX2_has_1 : decode cX2_has 1 = .ok (.ifCond .lt 15, 3) := by decide +kernel
theorem dX2_has_4 : decode cX2_has 4 = .ok (.iload_n 1, 1) := by decide +kernel
theorem dX2_has_5 : decode cX2_has 5 = .ok (.aload_n 0, 1) := by decide +kernel
theorem dX2_has_6 : decode cX2_has 6 = .ok (.getfield 33, 3) := by decide +kernel
theorem dX2_has_9 : decode cX2_has 9 = .ok (.if_icmp .ge 7, 3) := by decide +kernel
theorem dX2_has_12 : decode cX2_has 12 = .ok (.iconst 1, 1) := by decide +kernel
theorem dX2_has_13 : decode cX2_has 13 = .ok (.goto 4, 3) := by decide +kernel
theorem dX2_has_16 : decode cX2_has 16 = .ok (.iconst 0, 1) := by decide +kernel
theorem dX2_has_17 : decode cX2_has 17 = .ok (.ireturn, 1) := by decide +kernel
set_option maxRecDepth 20000 in
theorem ggX2_add_X2_isFull : GoodIn wsX2_add wsX2_isFull := goodIn_r _ [12, 2, 13, 14, 15, 16, 17, 18, 19, 20] (by decide +kernel) (by decide +kernel)
set_option maxRecDepth 20000 in
theorem gX2_add_X2_isFull : GoodIn wsX2_add (wsV RX2 37 RX2 yX2_isFull wsX2_isFull) := goodIn_app (goodIn_of _ (by decide +kernel)) ggX2_add_X2_isFull
theorem dX2_add_0 : decode cX2_add 0 = .ok (.aload_n 0, 1) := by decide +kernel
theorem dX2_add_1 : decode cX2_add 1 = .ok (.invokevirtual 37, 3) := by decide +kernel
theorem dX2_add_4 : decode cX2_add 4 = .ok (.ifCond .eq 6, 3) := by decide +kernel
theorem dX2_add_7 : decode cX2_add 7 = .ok (.bipush (-2), 2) := by decide +kernel
theorem dX2_add_9 : decode cX2_add 9 = .ok (.ireturn, 1) := by decide +kernel
theorem dX2_add_10 : decode cX2_add 10 = .ok (.aload_n 0, 1) := by decide +kernel
theorem dX2_add_11 : decode cX2_add 11 = .ok (.getfield 9, 3) := by decide +kernel
theorem dX2_add_14 : decode cX2_add 14 = .ok (.aload_n 0, 1) := by decide +kernel
theorem dX2_add_15 : decode cX2_add 15 = .ok (.getfield 33, 3) := by decide +kernel
theorem dX2_add_18 : decode cX2_add 18 = .ok (.iload_n 1, 1) := by decide +kernel
theorem dX2_add_19 : decode cX2_add 19 = .ok (.bipush 100, 2) := by decide +kernel
theorem dX2_add_21 : decode cX2_add 21 = .ok (.idiv, 1) := by decide +kernel
theorem dX2_add_22 : decode cX2_add 22 = .ok (.iastore, 1) := by decide +kernel
theorem dX2_add_23 : decode cX2_add 23 = .ok (.aload_n 0, 1) := by decide +kernel
theorem dX2_add_24 : decode cX2_add 24 = .ok (.getfield 15, 3) := by decide +kernel
theorem dX2_add_27 : decode cX2_add 27 = .ok (.aload_n 0, 1) := by decide +kernel
theorem dX2_add_28 : decode cX2_add 28 = .ok (.getfield 33, 3) := by decide +kernel
theorem dX2_add_31 : decode cX2_add 31 = .ok (.iload_n 1, 1) := by decide +kernel
theorem dX2_add_32 : decode cX2_add 32 = .ok (.bipush 100, 2) := by decide +kernel
theorem dX2_add_34 : decode cX2_add 34 = .ok (.irem, 1) := by decide +kernel
theorem dX2_add_35 : decode cX2_add 35 = .ok (.iastore, 1) := by decide +kernel
theorem dX2_add_36 : decode cX2_add 36 = .ok (.aload_n 0, 1) := by decide +kernel
theorem dX2_add_37 : decode cX2_add 37 = .ok (.getfield 18, 3) := by decide +kernel
theorem dX2_add_40 : decode cX2_add 40 = .ok (.aload_n 0, 1) := by decide +kernel
theorem dX2_add_41 : decode cX2_add 41 = .ok (.getfield 33, 3) := by decide +kernel
theorem dX2_add_44 : decode cX2_add 44 = .ok (.iload_n 2, 1) := by decide +kernel
theorem dX2_add_45 : decode cX2_add 45 = .ok (.iastore, 1) := by decide +kernel
theorem dX2_add_46 : decode cX2_add 46 = .ok (.aload_n 0, 1) := by decide +kernel
theorem dX2_add_47 : decode cX2_add 47 = .ok (.getfield 21, 3) := by decide +kernel
theorem dX2_add_50 : decode cX2_add 50 = .ok (.aload_n 0, 1) := by decide +kernel
theorem dX2_add_51 : decode cX2_add 51 = .ok (.getfield 33, 3) := by decide +kernel
theorem dX2_add_54 : decode cX2_add 54 = .ok (.iload_n 3, 1) := by decide +kernel
theorem dX2_add_55 : decode cX2_add 55 = .ok (.iastore, 1) := by decide +kernel
theorem dX2_add_56 : decode cX2_add 56 = .ok (.aload_n 0, 1) := by decide +kernel
theorem dX2_add_57 : decode cX2_add 57 = .ok (.getfield 24, 3) := by decide +kernel
theorem dX2_add_60 : decode cX2_add 60 = .ok (.aload_n 0, 1) := by decide +kernel
theorem dX2_add_61 : decode cX2_add 61 = .ok (.getfield 33, 3) := by decide +kernel
theorem dX2_add_64 : decode cX2_add 64 = .ok (.iload 4, 2) := by decide +kernel
theorem dX2_add_66 : decode cX2_add 66 = .ok (.iastore, 1) := by decide +kernel
theorem dX2_add_67 : decode cX2_add 67 = .ok (.aload_n 0, 1) := by decide +kernel
theorem dX2_add_68 : decode cX2_add 68 = .ok (.getfield 27, 3) := by decide +kernel
theorem dX2_add_71 : decode cX2_add 71 = .ok (.aload_n 0, 1) := by decide +kernel
theorem dX2_add_72 : decode cX2_add 72 = .ok (.getfield 33, 3) := by decide +kernel
theorem dX2_add_75 : decode cX2_add 75 = .ok (.iload 5, 2) := by decide +kernel
theorem dX2_add_77 : decode cX2_add 77 = .ok (.iastore, 1) := by decide +kernel
theorem dX2_add_78 : decode cX2_add 78 = .ok (.aload_n 0, 1) := by decide +kernel
theorem dX2_add_79 : decode cX2_add 79 = .ok (.dup, 1) := by decide +kernel
theorem dX2_add_80 : decode cX2_add 80 = .ok (.getfield 33, 3) := by decide +kernel
theorem dX2_add_83 : decode cX2_add 83 = .ok (.iconst 1, 1) := by decide +kernel
theorem dX2_add_84 : decode cX2_add 84 = .ok (.iadd, 1) := by decide +kernel
theorem dX2_add_85 : decode cX2_add 85 = .ok (.putfield 33, 3) := by decide +kernel
theorem dX2_add_88 : decode cX2_add 88 = .ok (.aload_n 0, 1) := by decide +kernel
theorem dX2_add_89 : decode cX2_add 89 = .ok (.getfield 33, 3) := by decide +kernel
theorem dX2_add_92 : decode cX2_add 92 = .ok (.iconst 1, 1) := by decide +kernel
theorem dX2_add_93 : decode cX2_add 93 = .ok (.isub, 1) := by decide +kernel
theorem dX2_add_94 : decode cX2_add 94 = .ok (.ireturn, 1) := by decide +kernel
set_option maxRecDepth 20000 in
theorem ggX2_putRight_X2_has : GoodIn wsX2_putRight wsX2_has := goodIn_r _ [7, 8, 9, 10, 11, 12, 13, 14, 15, 16] (by decide +kernel) (by decide +kernel)
set_option maxRecDepth 20000 in
theorem gX2_putRight_X2_has : GoodIn wsX2_putRight (wsV RX2 41 RX2 yX2_has wsX2_has) := goodIn_app (goodIn_of _ (by decide +kernel)) ggX2_putRight_X2_has
theorem dX2_putRight_0 : decode cX2_putRight 0 = .ok (.aload_n 0, 1) := by decide +kernel
theorem dX2_putRight_1 : decode cX2_putRight 1 = .ok (.iload_n 1, 1) := by decide +kernel
theorem dX2_putRight_2 : decode cX2_putRight 2 = .ok (.invokevirtual 41, 3) := by decide +kernel
theorem dX2_putRight_5 : decode cX2_putRight 5 = .ok (.ifCond .eq 17, 3) := by decide +kernel
theorem dX2_putRight_8 : decode cX2_putRight 8 = .ok (.aload_n 0, 1) := by decide +kernel
theorem dX2_putRight_9 : decode cX2_putRight 9 = .ok (.getfield 18, 3) := by decide +kernel
theorem dX2_putRight_12 : decode cX2_putRight 12 = .ok (.iload_n 1, 1) := by decide +kernel
theorem dX2_putRight_13 : decode cX2_putRight 13 = .ok (.iload_n 2, 1) := by decide +kernel
theorem dX2_putRight_14 : decode cX2_putRight 14 = .ok (.iastore, 1) := by decide +kernel
theorem dX2_putRight_15 : decode cX2_putRight 15 = .ok (.aload_n 0, 1) := by decide +kernel
theorem dX2_putRight_16 : decode cX2_putRight 16 = .ok (.getfield 21, 3) := by decide +kernel
theorem dX2_putRight_19 : decode cX2_putRight 19 = .ok (.iload_n 1, 1) := by decide +kernel
theorem dX2_putRight_20 : decode cX2_putRight 20 = .ok (.iload_n 3, 1) := by decide +kernel
theorem dX2_putRight_21 : decode cX2_putRight 21 = .ok (.iastore, 1) := by decide +kernel
theorem dX2_putRight_22 : decode cX2_putRight 22 = .ok (.return_, 1) := by decide +kernel
set_option maxRecDepth 20000 in
theorem ggX2_setStruck_X2_has : GoodIn wsX2_setStruck wsX2_has := goodIn_r _ [6, 7, 8, 9, 10, 11, 12, 13, 14, 15] (by decide +kernel) (by decide +kernel)
set_option maxRecDepth 20000 in
theorem gX2_setStruck_X2_has : GoodIn wsX2_setStruck (wsV RX2 41 RX2 yX2_has wsX2_has) := goodIn_app (goodIn_of _ (by decide +kernel)) ggX2_setStruck_X2_has
theorem dX2_setStruck_0 : decode cX2_setStruck 0 = .ok (.aload_n 0, 1) := by decide +kernel
theorem dX2_setStruck_1 : decode cX2_setStruck 1 = .ok (.iload_n 1, 1) := by decide +kernel
theorem dX2_setStruck_2 : decode cX2_setStruck 2 = .ok (.invokevirtual 41, 3) := by decide +kernel
theorem dX2_setStruck_5 : decode cX2_setStruck 5 = .ok (.ifCond .ne 5, 3) := by decide +kernel
theorem dX2_setStruck_8 : decode cX2_setStruck 8 = .ok (.iconst (-1), 1) := by decide +kernel
theorem dX2_setStruck_9 : decode cX2_setStruck 9 = .ok (.ireturn, 1) := by decide +kernel
theorem dX2_setStruck_10 : decode cX2_setStruck 10 = .ok (.aload_n 0, 1) := by decide +kernel
theorem dX2_setStruck_11 : decode cX2_setStruck 11 = .ok (.getfield 30, 3) := by decide +kernel
theorem dX2_setStruck_14 : decode cX2_setStruck 14 = .ok (.iload_n 1, 1) := by decide +kernel
theorem dX2_setStruck_15 : decode cX2_setStruck 15 = .ok (.iaload, 1) := by decide +kernel
theorem dX2_setStruck_16 : decode cX2_setStruck 16 = .ok (.istore_n 3, 1) := by decide +kernel
theorem dX2_setStruck_17 : decode cX2_setStruck 17 = .ok (.aload_n 0, 1) := by decide +kernel
theorem dX2_setStruck_18 : decode cX2_setStruck 18 = .ok (.getfield 30, 3) := by decide +kernel
theorem dX2_setStruck_21 : decode cX2_setStruck 21 = .ok (.iload_n 1, 1) := by decide +kernel
theorem dX2_setStruck_22 : decode cX2_setStruck 22 = .ok (.iload_n 2, 1) := by decide +kernel
theorem dX2_setStruck_23 : decode cX2_setStruck 23 = .ok (.iastore, 1) := by decide +kernel
theorem dX2_setStruck_24 : decode cX2_setStruck 24 = .ok (.iload_n 3, 1) := by decide +kernel
theorem dX2_setStruck_25 : decode cX2_setStruck 25 = .ok (.ireturn, 1) := by decide +kernel
set_option maxRecDepth 20000 in
theorem ggX2_field_X2_has : GoodIn wsX2_field wsX2_has := goodIn_r _ [11, 12, 18, 19, 20, 21, 22, 23, 24, 25] (by decide +kernel) (by decide +kernel)
set_option maxRecDepth 20000 in
theorem gX2_field_X2_has : GoodIn wsX2_field (wsV RX2 41 RX2 yX2_has wsX2_has) := goodIn_app (goodIn_of _ (by decide +kernel)) ggX2_field_X2_has
set_option maxRecDepth 20000 in
theorem ggX2_field_X2_valueOf : GoodIn wsX2_field wsX2_valueOf := goodIn_r _ [16, 17, 18, 19, 20, 21, 22, 23, 24, 25] (by decide +kernel) (by decide +kernel)
set_option maxRecDepth 20000 in
theorem gX2_field_X2_valueOf : GoodIn wsX2_field (wsV RX2 45 RX2 yX2_valueOf wsX2_valueOf) := goodIn_app (goodIn_of _ (by decide +kernel)) ggX2_field_X2_valueOf
theorem dX2_field_0 : decode cX2_field 0 = .ok (.aload_n 0, 1) := by decide +kernel
theorem dX2_field_1 : decode cX2_field 1 = .ok (.iload_n 1, 1) := by decide +kernel
theorem dX2_field_2 : decode cX2_field 2 = .ok (.invokevirtual 41, 3) := by decide +kernel
theorem dX2_field_5 : decode cX2_field 5 = .ok (.ifCond .ne 7, 3) := by decide +kernel
theorem dX2_field_8 : decode cX2_field 8 = .ok (.sipush (-1000), 3) := by decide +kernel
theorem dX2_field_11 : decode cX2_field 11 = .ok (.ireturn, 1) := by decide +kernel
theorem dX2_field_12 : decode cX2_field 12 = .ok (.iload_n 2, 1) := by decide +kernel
theorem dX2_field_13 : decode cX2_field 13 = .ok (.tableswitch 102 0 8 #[51, 58, 65, 72, 79, 86, 86, 86, 95], 51) := by decide +kernel
theorem dX2_field_64 : decode cX2_field 64 = .ok (.aload_n 0, 1) := by decide +kernel
theorem dX2_field_65 : decode cX2_field 65 = .ok (.getfield 9, 3) := by decide +kernel
theorem dX2_field_68 : decode cX2_field 68 = .ok (.iload_n 1, 1) := by decide +kernel
theorem dX2_field_69 : decode cX2_field 69 = .ok (.iaload, 1) := by decide +kernel
theorem dX2_field_70 : decode cX2_field 70 = .ok (.ireturn, 1) := by decide +kernel
theorem dX2_field_71 : decode cX2_field 71 = .ok (.aload_n 0, 1) := by decide +kernel
theorem dX2_field_72 : decode cX2_field 72 = .ok (.getfield 15, 3) := by decide +kernel
theorem dX2_field_75 : decode cX2_field 75 = .ok (.iload_n 1, 1) := by decide +kernel
theorem dX2_field_76 : decode cX2_field 76 = .ok (.iaload, 1) := by decide +kernel
theorem dX2_field_77 : decode cX2_field 77 = .ok (.ireturn, 1) := by decide +kernel
theorem dX2_field_78 : decode cX2_field 78 = .ok (.aload_n 0, 1) := by decide +kernel
theorem dX2_field_79 : decode cX2_field 79 = .ok (.getfield 18, 3) := by decide +kernel
theorem dX2_field_82 : decode cX2_field 82 = .ok (.iload_n 1, 1) := by decide +kernel
theorem dX2_field_83 : decode cX2_field 83 = .ok (.iaload, 1) := by decide +kernel
theorem dX2_field_84 : decode cX2_field 84 = .ok (.ireturn, 1) := by decide +kernel
theorem dX2_field_85 : decode cX2_field 85 = .ok (.aload_n 0, 1) := by decide +kernel
theorem dX2_field_86 : decode cX2_field 86 = .ok (.getfield 21, 3) := by decide +kernel
theorem dX2_field_89 : decode cX2_field 89 = .ok (.iload_n 1, 1) := by decide +kernel
theorem dX2_field_90 : decode cX2_field 90 = .ok (.iaload, 1) := by decide +kernel
theorem dX2_field_91 : decode cX2_field 91 = .ok (.ireturn, 1) := by decide +kernel
theorem dX2_field_92 : decode cX2_field 92 = .ok (.aload_n 0, 1) := by decide +kernel
theorem dX2_field_93 : decode cX2_field 93 = .ok (.getfield 24, 3) := by decide +kernel
theorem dX2_field_96 : decode cX2_field 96 = .ok (.iload_n 1, 1) := by decide +kernel
theorem dX2_field_97 : decode cX2_field 97 = .ok (.iaload, 1) := by decide +kernel
theorem dX2_field_98 : decode cX2_field 98 = .ok (.ireturn, 1) := by decide +kernel
theorem dX2_field_99 : decode cX2_field 99 = .ok (.aload_n 0, 1) := by decide +kernel
theorem dX2_field_100 : decode cX2_field 100 = .ok (.iload_n 1, 1) := by decide +kernel
theorem dX2_field_101 : decode cX2_field 101 = .ok (.iload_n 2, 1) := by decide +kernel
theorem dX2_field_102 : decode cX2_field 102 = .ok (.iconst 5, 1) := by decide +kernel
theorem dX2_field_103 : decode cX2_field 103 = .ok (.isub, 1) := by decide +kernel
theorem dX2_field_104 : decode cX2_field 104 = .ok (.invokevirtual 45, 3) := by decide +kernel
theorem dX2_field_107 : decode cX2_field 107 = .ok (.ireturn, 1) := by decide +kernel
theorem dX2_field_108 : decode cX2_field 108 = .ok (.aload_n 0, 1) := by decide +kernel
theorem dX2_field_109 : decode cX2_field 109 = .ok (.getfield 30, 3) := by decide +kernel
theorem dX2_field_112 : decode cX2_field 112 = .ok (.iload_n 1, 1) := by decide +kernel
theorem dX2_field_113 : decode cX2_field 113 = .ok (.iaload, 1) := by decide +kernel
theorem dX2_field_114 : decode cX2_field 114 = .ok (.ireturn, 1) := by decide +kernel
theorem dX2_field_115 : decode cX2_field 115 = .ok (.sipush (-1000), 3) := by decide +kernel
theorem dX2_field_118 : decode cX2_field 118 = .ok (.ireturn, 1) := by decide +kernel
theorem dX2_struckOnes_0 : decode cX2_struckOnes 0 = .ok (.iconst 0, 1) := by decide +kernel
theorem dX2_struckOnes_1 : decode cX2_struckOnes 1 = .ok (.istore_n 1, 1) := by decide +kernel
theorem dX2_struckOnes_2 : decode cX2_struckOnes 2 = .ok (.iconst 0, 1) := by decide +kernel
theorem dX2_struckOnes_3 : decode cX2_struckOnes 3 = .ok (.istore_n 2, 1) := by decide +kernel
theorem dX2_struckOnes_4 : decode cX2_struckOnes 4 = .ok (.iload_n 2, 1) := by decide +kernel
theorem dX2_struckOnes_5 : decode cX2_struckOnes 5 = .ok (.aload_n 0, 1) := by decide +kernel
theorem dX2_struckOnes_6 : decode cX2_struckOnes 6 = .ok (.getfield 33, 3) := by decide +kernel
theorem dX2_struckOnes_9 : decode cX2_struckOnes 9 = .ok (.if_icmp .ge 18, 3) := by decide +kernel
theorem dX2_struckOnes_12 : decode cX2_struckOnes 12 = .ok (.iload_n 1, 1) := by decide +kernel
theorem dX2_struckOnes_13 : decode cX2_struckOnes 13 = .ok (.aload_n 0, 1) := by decide +kernel
theorem dX2_struckOnes_14 : decode cX2_struckOnes 14 = .ok (.getfield 30, 3) := by decide +kernel
theorem dX2_struckOnes_17 : decode cX2_struckOnes 17 = .ok (.iload_n 2, 1) := by decide +kernel
theorem dX2_struckOnes_18 : decode cX2_struckOnes 18 = .ok (.iaload, 1) := by decide +kernel
theorem dX2_struckOnes_19 : decode cX2_struckOnes 19 = .ok (.iadd, 1) := by decide +kernel
theorem dX2_struckOnes_20 : decode cX2_struckOnes 20 = .ok (.istore_n 1, 1) := by decide +kernel
theorem dX2_struckOnes_21 : decode cX2_struckOnes 21 = .ok (.iinc 2 1, 3) := by decide +kernel
theorem dX2_struckOnes_24 : decode cX2_struckOnes 24 = .ok (.goto (-20), 3) := by decide +kernel
theorem dX2_struckOnes_27 : decode cX2_struckOnes 27 = .ok (.iload_n 1, 1) := by decide +kernel
theorem dX2_struckOnes_28 : decode cX2_struckOnes 28 = .ok (.ireturn, 1) := by decide +kernel
theorem dX2_valueOf_0 : decode cX2_valueOf 0 = .ok (.aload_n 0, 1) := by decide +kernel
theorem dX2_valueOf_1 : decode cX2_valueOf 1 = .ok (.getfield 27, 3) := by decide +kernel
theorem dX2_valueOf_4 : decode cX2_valueOf 4 = .ok (.iload_n 1, 1) := by decide +kernel
theorem dX2_valueOf_5 : decode cX2_valueOf 5 = .ok (.iaload, 1) := by decide +kernel
theorem dX2_valueOf_6 : decode cX2_valueOf 6 = .ok (.iconst 3, 1) := by decide +kernel
theorem dX2_valueOf_7 : decode cX2_valueOf 7 = .ok (.iload_n 2, 1) := by decide +kernel
theorem dX2_valueOf_8 : decode cX2_valueOf 8 = .ok (.imul, 1) := by decide +kernel
theorem dX2_valueOf_9 : decode cX2_valueOf 9 = .ok (.ishr, 1) := by decide +kernel
theorem dX2_valueOf_10 : decode cX2_valueOf 10 = .ok (.bipush 7, 2) := by decide +kernel
theorem dX2_valueOf_12 : decode cX2_valueOf 12 = .ok (.iand, 1) := by decide +kernel
theorem dX2_valueOf_13 : decode cX2_valueOf 13 = .ok (.ireturn, 1) := by decide +kernel
theorem dX2_fits_0 : decode cX2_fits 0 = .ok (.aload_n 0, 1) := by decide +kernel
theorem dX2_fits_1 : decode cX2_fits 1 = .ok (.getfield 30, 3) := by decide +kernel
theorem dX2_fits_4 : decode cX2_fits 4 = .ok (.iload_n 1, 1) := by decide +kernel
theorem dX2_fits_5 : decode cX2_fits 5 = .ok (.iaload, 1) := by decide +kernel
theorem dX2_fits_6 : decode cX2_fits 6 = .ok (.ifCond .ne 19, 3) := by decide +kernel
theorem dX2_fits_9 : decode cX2_fits 9 = .ok (.aload_n 0, 1) := by decide +kernel
theorem dX2_fits_10 : decode cX2_fits 10 = .ok (.getfield 27, 3) := by decide +kernel
theorem dX2_fits_13 : decode cX2_fits 13 = .ok (.iload_n 1, 1) := by decide +kernel
theorem dX2_fits_14 : decode cX2_fits 14 = .ok (.iaload, 1) := by decide +kernel
theorem dX2_fits_15 : decode cX2_fits 15 = .ok (.iload_n 2, 1) := by decide +kernel
theorem dX2_fits_16 : decode cX2_fits 16 = .ok (.iand, 1) := by decide +kernel
theorem dX2_fits_17 : decode cX2_fits 17 = .ok (.iload_n 3, 1) := by decide +kernel
theorem dX2_fits_18 : decode cX2_fits 18 = .ok (.if_icmp .ne 7, 3) := by decide +kernel
theorem dX2_fits_21 : decode cX2_fits 21 = .ok (.iconst 1, 1) := by decide +kernel
theorem dX2_fits_22 : decode cX2_fits 22 = .ok (.goto 4, 3) := by decide +kernel
theorem dX2_fits_25 : decode cX2_fits 25 = .ok (.iconst 0, 1) := by decide +kernel
theorem dX2_fits_26 : decode cX2_fits 26 = .ok (.ireturn, 1) := by decide +kernel
set_option maxRecDepth 20000 in
theorem ggX2_total_X1_testedBits : GoodIn wsX2_total wsX1_testedBits := goodIn_r _ [9, 10, 11, 8, 12] (by decide +kernel) (by decide +kernel)
set_option maxRecDepth 20000 in
theorem gX2_total_X1_testedBits : GoodIn wsX2_total (va_wsS RX2 49 yX1_testedBits wsX1_testedBits) := goodIn_app (goodIn_of _ (by decide +kernel)) ggX2_total_X1_testedBits
set_option maxRecDepth 20000 in
theorem ggX2_total_X1_wantedBits : GoodIn wsX2_total wsX1_wantedBits := goodIn_r _ [15, 10, 11, 8, 12] (by decide +kernel) (by decide +kernel)
set_option maxRecDepth 20000 in
theorem gX2_total_X1_wantedBits : GoodIn wsX2_total (va_wsS RX2 55 yX1_wantedBits wsX1_wantedBits) := goodIn_app (goodIn_of _ (by decide +kernel)) ggX2_total_X1_wantedBits
set_option maxRecDepth 20000 in
theorem ggX2_total_X2_fits : GoodIn wsX2_total wsX2_fits := goodIn_r _ [20, 21, 22, 30, 31, 32, 33, 34, 35, 36, 37] (by decide +kernel) (by decide +kernel)
set_option maxRecDepth 20000 in
theorem gX2_total_X2_fits : GoodIn wsX2_total (wsV RX2 58 RX2 yX2_fits wsX2_fits) := goodIn_app (goodIn_of _ (by decide +kernel)) ggX2_total_X2_fits
set_option maxRecDepth 20000 in
theorem ggX2_total_J13_bitCount_95d88 : GoodIn wsX2_total wsJ13_bitCount_95d88 := goodIn_r _ [26, 27, 28, 29] (by decide +kernel) (by decide +kernel)
set_option maxRecDepth 20000 in
theorem gX2_total_J13_bitCount_95d88 : GoodIn wsX2_total (va_wsS RX2 62 yJ13_bitCount_95d88 wsJ13_bitCount_95d88) := goodIn_app (goodIn_of _ (by decide +kernel)) ggX2_total_J13_bitCount_95d88
theorem dX2_total_0 : decode cX2_total 0 = .ok (.iload_n 1, 1) := by decide +kernel
theorem dX2_total_1 : decode cX2_total 1 = .ok (.invokestatic 49, 3) := by decide +kernel
theorem dX2_total_4 : decode cX2_total 4 = .ok (.istore 4, 2) := by decide +kernel
theorem dX2_total_6 : decode cX2_total 6 = .ok (.iload_n 1, 1) := by decide +kernel
theorem dX2_total_7 : decode cX2_total 7 = .ok (.invokestatic 55, 3) := by decide +kernel
theorem dX2_total_10 : decode cX2_total 10 = .ok (.istore 5, 2) := by decide +kernel
theorem dX2_total_12 : decode cX2_total 12 = .ok (.iconst 0, 1) := by decide +kernel
theorem dX2_total_13 : decode cX2_total 13 = .ok (.istore 6, 2) := by decide +kernel
theorem dX2_total_15 : decode cX2_total 15 = .ok (.lconst 0, 1) := by decide +kernel
theorem dX2_total_16 : decode cX2_total 16 = .ok (.lstore 7, 2) := by decide +kernel
theorem dX2_total_18 : decode cX2_total 18 = .ok (.iconst 0, 1) := by decide +kernel
theorem dX2_total_19 : decode cX2_total 19 = .ok (.istore 9, 2) := by decide +kernel
theorem dX2_total_21 : decode cX2_total 21 = .ok (.iload 9, 2) := by decide +kernel
theorem dX2_total_23 : decode cX2_total 23 = .ok (.aload_n 0, 1) := by decide +kernel
theorem dX2_total_24 : decode cX2_total 24 = .ok (.getfield 33, 3) := by decide +kernel
theorem dX2_total_27 : decode cX2_total 27 = .ok (.if_icmp .ge 82, 3) := by decide +kernel
theorem dX2_total_30 : decode cX2_total 30 = .ok (.aload_n 0, 1) := by decide +kernel
theorem dX2_total_31 : decode cX2_total 31 = .ok (.getfield 9, 3) := by decide +kernel
theorem dX2_total_34 : decode cX2_total 34 = .ok (.iload 9, 2) := by decide +kernel
theorem dX2_total_36 : decode cX2_total 36 = .ok (.iaload, 1) := by decide +kernel
theorem dX2_total_37 : decode cX2_total 37 = .ok (.iload_n 2, 1) := by decide +kernel
theorem dX2_total_38 : decode cX2_total 38 = .ok (.if_icmp .ne 65, 3) := by decide +kernel
theorem dX2_total_41 : decode cX2_total 41 = .ok (.aload_n 0, 1) := by decide +kernel
theorem dX2_total_42 : decode cX2_total 42 = .ok (.iload 9, 2) := by decide +kernel
theorem dX2_total_44 : decode cX2_total 44 = .ok (.iload 4, 2) := by decide +kernel
theorem dX2_total_46 : decode cX2_total 46 = .ok (.iload 5, 2) := by decide +kernel
theorem dX2_total_48 : decode cX2_total 48 = .ok (.invokevirtual 58, 3) := by decide +kernel
theorem dX2_total_51 : decode cX2_total 51 = .ok (.ifCond .eq 52, 3) := by decide +kernel
theorem dX2_total_54 : decode cX2_total 54 = .ok (.iload 6, 2) := by decide +kernel
theorem dX2_total_56 : decode cX2_total 56 = .ok (.iload_n 3, 1) := by decide +kernel
theorem dX2_total_57 : decode cX2_total 57 = .ok (.ifCond .ne 13, 3) := by decide +kernel
theorem dX2_total_60 : decode cX2_total 60 = .ok (.aload_n 0, 1) := by decide +kernel
theorem dX2_total_61 : decode cX2_total 61 = .ok (.getfield 18, 3) := by decide +kernel
theorem dX2_total_64 : decode cX2_total 64 = .ok (.iload 9, 2) := by decide +kernel
theorem dX2_total_66 : decode cX2_total 66 = .ok (.iaload, 1) := by decide +kernel
theorem dX2_total_67 : decode cX2_total 67 = .ok (.goto 19, 3) := by decide +kernel
theorem dX2_total_70 : decode cX2_total 70 = .ok (.iload_n 3, 1) := by decide +kernel
theorem dX2_total_71 : decode cX2_total 71 = .ok (.iconst 2, 1) := by decide +kernel
theorem dX2_total_72 : decode cX2_total 72 = .ok (.if_icmp .ne 13, 3) := by decide +kernel
theorem dX2_total_75 : decode cX2_total 75 = .ok (.aload_n 0, 1) := by decide +kernel
theorem dX2_total_76 : decode cX2_total 76 = .ok (.getfield 21, 3) := by decide +kernel
theorem dX2_total_79 : decode cX2_total 79 = .ok (.iload 9, 2) := by decide +kernel
theorem dX2_total_81 : decode cX2_total 81 = .ok (.iaload, 1) := by decide +kernel
theorem dX2_total_82 : decode cX2_total 82 = .ok (.goto 4, 3) := by decide +kernel
theorem dX2_total_85 : decode cX2_total 85 = .ok (.iconst 1, 1) := by decide +kernel
theorem dX2_total_86 : decode cX2_total 86 = .ok (.iadd, 1) := by decide +kernel
theorem dX2_total_87 : decode cX2_total 87 = .ok (.istore 6, 2) := by decide +kernel
theorem dX2_total_89 : decode cX2_total 89 = .ok (.lload 7, 2) := by decide +kernel
theorem dX2_total_91 : decode cX2_total 91 = .ok (.lconst 1, 1) := by decide +kernel
theorem dX2_total_92 : decode cX2_total 92 = .ok (.aload_n 0, 1) := by decide +kernel
theorem dX2_total_93 : decode cX2_total 93 = .ok (.getfield 24, 3) := by decide +kernel
theorem dX2_total_96 : decode cX2_total 96 = .ok (.iload 9, 2) := by decide +kernel
theorem dX2_total_98 : decode cX2_total 98 = .ok (.iaload, 1) := by decide +kernel
theorem dX2_total_99 : decode cX2_total 99 = .ok (.lshl, 1) := by decide +kernel
theorem dX2_total_100 : decode cX2_total 100 = .ok (.lor, 1) := by decide +kernel
theorem dX2_total_101 : decode cX2_total 101 = .ok (.lstore 7, 2) := by decide +kernel
theorem dX2_total_103 : decode cX2_total 103 = .ok (.iinc 9 1, 3) := by decide +kernel
theorem dX2_total_106 : decode cX2_total 106 = .ok (.goto (-85), 3) := by decide +kernel
theorem dX2_total_109 : decode cX2_total 109 = .ok (.iload_n 3, 1) := by decide +kernel
theorem dX2_total_110 : decode cX2_total 110 = .ok (.iconst 3, 1) := by decide +kernel
theorem dX2_total_111 : decode cX2_total 111 = .ok (.if_icmp .ne 11, 3) := by decide +kernel
theorem dX2_total_114 : decode cX2_total 114 = .ok (.lload 7, 2) := by decide +kernel
theorem dX2_total_116 : decode cX2_total 116 = .ok (.invokestatic 62, 3) := by decide +kernel
theorem dX2_total_119 : decode cX2_total 119 = .ok (.goto 5, 3) := by decide +kernel
theorem dX2_total_122 : decode cX2_total 122 = .ok (.iload 6, 2) := by decide +kernel
theorem dX2_total_124 : decode cX2_total 124 = .ok (.ireturn, 1) := by decide +kernel
set_option maxRecDepth 20000 in
theorem ggX2_moved_X2_total : GoodIn wsX2_moved wsX2_total := goodIn_r _ [5, 6, 7, 8, 9, 10, 11, 12, 13, 14, 15, 16, 17, 18, 19, 20, 21, 22, 23, 4, 24, 25, 26, 27, 28, 29, 30, 31, 32, 33, 34, 35, 36, 37, 38, 39, 40, 41] (by decide +kernel) (by decide +kernel)
set_option maxRecDepth 20000 in
theorem gX2_moved_X2_total : GoodIn wsX2_moved (wsV RX2 68 RX2 yX2_total wsX2_total) := goodIn_app (goodIn_of _ (by decide +kernel)) ggX2_moved_X2_total
theorem dX2_moved_0 : decode cX2_moved 0 = .ok (.aload_n 0, 1) := by decide +kernel
theorem dX2_moved_1 : decode cX2_moved 1 = .ok (.iload_n 1, 1) := by decide +kernel
theorem dX2_moved_2 : decode cX2_moved 2 = .ok (.iconst 1, 1) := by decide +kernel
theorem dX2_moved_3 : decode cX2_moved 3 = .ok (.iload_n 2, 1) := by decide +kernel
theorem dX2_moved_4 : decode cX2_moved 4 = .ok (.invokevirtual 68, 3) := by decide +kernel
theorem dX2_moved_7 : decode cX2_moved 7 = .ok (.aload_n 0, 1) := by decide +kernel
theorem dX2_moved_8 : decode cX2_moved 8 = .ok (.iload_n 1, 1) := by decide +kernel
theorem dX2_moved_9 : decode cX2_moved 9 = .ok (.iconst 0, 1) := by decide +kernel
theorem dX2_moved_10 : decode cX2_moved 10 = .ok (.iload_n 2, 1) := by decide +kernel
theorem dX2_moved_11 : decode cX2_moved 11 = .ok (.invokevirtual 68, 3) := by decide +kernel
theorem dX2_moved_14 : decode cX2_moved 14 = .ok (.isub, 1) := by decide +kernel
theorem dX2_moved_15 : decode cX2_moved 15 = .ok (.ireturn, 1) := by decide +kernel
set_option maxRecDepth 20000 in
theorem ggX2_hasRates_X2_total : GoodIn wsX2_hasRates wsX2_total := goodIn_r _ [5, 6, 7, 8, 9, 10, 11, 12, 13, 14, 15, 16, 17, 18, 19, 20, 21, 22, 23, 4, 24, 25, 26, 27, 28, 29, 30, 31, 32, 33, 34, 35, 36, 37, 38, 39, 40, 41] (by decide +kernel) (by decide +kernel)
set_option maxRecDepth 20000 in
theorem gX2_hasRates_X2_total : GoodIn wsX2_hasRates (wsV RX2 68 RX2 yX2_total wsX2_total) := goodIn_app (goodIn_of _ (by decide +kernel)) ggX2_hasRates_X2_total
theorem dX2_hasRates_0 : decode cX2_hasRates 0 = .ok (.aload_n 0, 1) := by decide +kernel
theorem dX2_hasRates_1 : decode cX2_hasRates 1 = .ok (.iload_n 1, 1) := by decide +kernel
theorem dX2_hasRates_2 : decode cX2_hasRates 2 = .ok (.iconst 0, 1) := by decide +kernel
theorem dX2_hasRates_3 : decode cX2_hasRates 3 = .ok (.iconst 2, 1) := by decide +kernel
theorem dX2_hasRates_4 : decode cX2_hasRates 4 = .ok (.invokevirtual 68, 3) := by decide +kernel
theorem dX2_hasRates_7 : decode cX2_hasRates 7 = .ok (.ifCond .le 17, 3) := by decide +kernel
theorem dX2_hasRates_10 : decode cX2_hasRates 10 = .ok (.aload_n 0, 1) := by decide +kernel
theorem dX2_hasRates_11 : decode cX2_hasRates 11 = .ok (.iload_n 1, 1) := by decide +kernel
theorem dX2_hasRates_12 : decode cX2_hasRates 12 = .ok (.iconst 1, 1) := by decide +kernel
theorem dX2_hasRates_13 : decode cX2_hasRates 13 = .ok (.iconst 2, 1) := by decide +kernel
theorem dX2_hasRates_14 : decode cX2_hasRates 14 = .ok (.invokevirtual 68, 3) := by decide +kernel
theorem dX2_hasRates_17 : decode cX2_hasRates 17 = .ok (.ifCond .le 7, 3) := by decide +kernel
theorem dX2_hasRates_20 : decode cX2_hasRates 20 = .ok (.iconst 1, 1) := by decide +kernel
theorem dX2_hasRates_21 : decode cX2_hasRates 21 = .ok (.goto 4, 3) := by decide +kernel
theorem dX2_hasRates_24 : decode cX2_hasRates 24 = .ok (.iconst 0, 1) := by decide +kernel
theorem dX2_hasRates_25 : decode cX2_hasRates 25 = .ok (.ireturn, 1) := by decide +kernel
set_option maxRecDepth 20000 in
theorem ggX2_bitsOf_X1_testedBits : GoodIn wsX2_bitsOf wsX1_testedBits := goodIn_r _ [9, 10, 11, 8, 12] (by decide +kernel) (by decide +kernel)
set_option maxRecDepth 20000 in
theorem gX2_bitsOf_X1_testedBits : GoodIn wsX2_bitsOf (va_wsS RX2 49 yX1_testedBits wsX1_testedBits) := goodIn_app (goodIn_of _ (by decide +kernel)) ggX2_bitsOf_X1_testedBits
set_option maxRecDepth 20000 in
theorem ggX2_bitsOf_X1_wantedBits : GoodIn wsX2_bitsOf wsX1_wantedBits := goodIn_r _ [15, 10, 11, 8, 12] (by decide +kernel) (by decide +kernel)
set_option maxRecDepth 20000 in
theorem gX2_bitsOf_X1_wantedBits : GoodIn wsX2_bitsOf (va_wsS RX2 55 yX1_wantedBits wsX1_wantedBits) := goodIn_app (goodIn_of _ (by decide +kernel)) ggX2_bitsOf_X1_wantedBits
set_option maxRecDepth 20000 in
theorem ggX2_bitsOf_X2_fits : GoodIn wsX2_bitsOf wsX2_fits := goodIn_r _ [20, 21, 22, 23, 24, 25, 26, 27, 28, 29, 30] (by decide +kernel) (by decide +kernel)
set_option maxRecDepth 20000 in
theorem gX2_bitsOf_X2_fits : GoodIn wsX2_bitsOf (wsV RX2 58 RX2 yX2_fits wsX2_fits) := goodIn_app (goodIn_of _ (by decide +kernel)) ggX2_bitsOf_X2_fits
theorem dX2_bitsOf_0 : decode cX2_bitsOf 0 = .ok (.iload_n 1, 1) := by decide +kernel
theorem dX2_bitsOf_1 : decode cX2_bitsOf 1 = .ok (.invokestatic 49, 3) := by decide +kernel
theorem dX2_bitsOf_4 : decode cX2_bitsOf 4 = .ok (.istore_n 3, 1) := by decide +kernel
theorem dX2_bitsOf_5 : decode cX2_bitsOf 5 = .ok (.iload_n 1, 1) := by decide +kernel
theorem dX2_bitsOf_6 : decode cX2_bitsOf 6 = .ok (.invokestatic 55, 3) := by decide +kernel
theorem dX2_bitsOf_9 : decode cX2_bitsOf 9 = .ok (.istore 4, 2) := by decide +kernel
theorem dX2_bitsOf_11 : decode cX2_bitsOf 11 = .ok (.iload_n 2, 1) := by decide +kernel
theorem dX2_bitsOf_12 : decode cX2_bitsOf 12 = .ok (.ifCond .ne 7, 3) := by decide +kernel
theorem dX2_bitsOf_15 : decode cX2_bitsOf 15 = .ok (.iconst 0, 1) := by decide +kernel
theorem dX2_bitsOf_16 : decode cX2_bitsOf 16 = .ok (.goto 5, 3) := by decide +kernel
theorem dX2_bitsOf_19 : decode cX2_bitsOf 19 = .ok (.bipush 64, 2) := by decide +kernel
theorem dX2_bitsOf_21 : decode cX2_bitsOf 21 = .ok (.istore 5, 2) := by decide +kernel
theorem dX2_bitsOf_23 : decode cX2_bitsOf 23 = .ok (.iload_n 2, 1) := by decide +kernel
theorem dX2_bitsOf_24 : decode cX2_bitsOf 24 = .ok (.ifCond .ne 15, 3) := by decide +kernel
theorem dX2_bitsOf_27 : decode cX2_bitsOf 27 = .ok (.aload_n 0, 1) := by decide +kernel
theorem dX2_bitsOf_28 : decode cX2_bitsOf 28 = .ok (.getfield 33, 3) := by decide +kernel
theorem dX2_bitsOf_31 : decode cX2_bitsOf 31 = .ok (.bipush 64, 2) := by decide +kernel
theorem dX2_bitsOf_33 : decode cX2_bitsOf 33 = .ok (.invokestatic 72, 3) := by decide +kernel
theorem dX2_bitsOf_36 : decode cX2_bitsOf 36 = .ok (.goto 7, 3) := by decide +kernel
theorem dX2_bitsOf_39 : decode cX2_bitsOf 39 = .ok (.aload_n 0, 1) := by decide +kernel
theorem dX2_bitsOf_40 : decode cX2_bitsOf 40 = .ok (.getfield 33, 3) := by decide +kernel
theorem dX2_bitsOf_43 : decode cX2_bitsOf 43 = .ok (.istore 6, 2) := by decide +kernel
theorem dX2_bitsOf_45 : decode cX2_bitsOf 45 = .ok (.lconst 0, 1) := by decide +kernel
theorem dX2_bitsOf_46 : decode cX2_bitsOf 46 = .ok (.lstore 7, 2) := by decide +kernel
theorem dX2_bitsOf_48 : decode cX2_bitsOf 48 = .ok (.iload 5, 2) := by decide +kernel
theorem dX2_bitsOf_50 : decode cX2_bitsOf 50 = .ok (.istore 9, 2) := by decide +kernel
theorem dX2_bitsOf_52 : decode cX2_bitsOf 52 = .ok (.iload 9, 2) := by decide +kernel
theorem dX2_bitsOf_54 : decode cX2_bitsOf 54 = .ok (.iload 6, 2) := by decide +kernel
theorem dX2_bitsOf_56 : decode cX2_bitsOf 56 = .ok (.if_icmp .ge 33, 3) := by decide +kernel
theorem dX2_bitsOf_59 : decode cX2_bitsOf 59 = .ok (.aload_n 0, 1) := by decide +kernel
theorem dX2_bitsOf_60 : decode cX2_bitsOf 60 = .ok (.iload 9, 2) := by decide +kernel
theorem dX2_bitsOf_62 : decode cX2_bitsOf 62 = .ok (.iload_n 3, 1) := by decide +kernel
theorem dX2_bitsOf_63 : decode cX2_bitsOf 63 = .ok (.iload 4, 2) := by decide +kernel
theorem dX2_bitsOf_65 : decode cX2_bitsOf 65 = .ok (.invokevirtual 58, 3) := by decide +kernel
theorem dX2_bitsOf_68 : decode cX2_bitsOf 68 = .ok (.ifCond .eq 15, 3) := by decide +kernel
theorem dX2_bitsOf_71 : decode cX2_bitsOf 71 = .ok (.lload 7, 2) := by decide +kernel
theorem dX2_bitsOf_73 : decode cX2_bitsOf 73 = .ok (.lconst 1, 1) := by decide +kernel
theorem dX2_bitsOf_74 : decode cX2_bitsOf 74 = .ok (.iload 9, 2) := by decide +kernel
theorem dX2_bitsOf_76 : decode cX2_bitsOf 76 = .ok (.iload 5, 2) := by decide +kernel
theorem dX2_bitsOf_78 : decode cX2_bitsOf 78 = .ok (.isub, 1) := by decide +kernel
theorem dX2_bitsOf_79 : decode cX2_bitsOf 79 = .ok (.lshl, 1) := by decide +kernel
theorem dX2_bitsOf_80 : decode cX2_bitsOf 80 = .ok (.lor, 1) := by decide +kernel
theorem dX2_bitsOf_81 : decode cX2_bitsOf 81 = .ok (.lstore 7, 2) := by decide +kernel
theorem dX2_bitsOf_83 : decode cX2_bitsOf 83 = .ok (.iinc 9 1, 3) := by decide +kernel
theorem dX2_bitsOf_86 : decode cX2_bitsOf 86 = .ok (.goto (-34), 3) := by decide +kernel
theorem dX2_bitsOf_89 : decode cX2_bitsOf 89 = .ok (.lload 7, 2) := by decide +kernel
theorem dX2_bitsOf_91 : decode cX2_bitsOf 91 = .ok (.lreturn, 1) := by decide +kernel
set_option maxRecDepth 20000 in
theorem ggX2_meet_X2_bitsOf : GoodIn wsX2_meet wsX2_bitsOf := goodIn_r _ [5, 6, 7, 8, 9, 10, 11, 12, 13, 14, 15, 16, 17, 18, 19, 20, 21, 22, 23, 4, 24, 25, 26, 27, 28, 29, 30, 31, 32, 33, 34] (by decide +kernel) (by decide +kernel)
set_option maxRecDepth 20000 in
theorem gX2_meet_X2_bitsOf : GoodIn wsX2_meet (wsV RX2 77 RX2 yX2_bitsOf wsX2_bitsOf) := goodIn_app (goodIn_of _ (by decide +kernel)) ggX2_meet_X2_bitsOf
theorem dX2_meet_0 : decode cX2_meet 0 = .ok (.aload_n 0, 1) := by decide +kernel
theorem dX2_meet_1 : decode cX2_meet 1 = .ok (.iload_n 1, 1) := by decide +kernel
theorem dX2_meet_2 : decode cX2_meet 2 = .ok (.iconst 0, 1) := by decide +kernel
theorem dX2_meet_3 : decode cX2_meet 3 = .ok (.invokevirtual 77, 3) := by decide +kernel
theorem dX2_meet_6 : decode cX2_meet 6 = .ok (.aload_n 0, 1) := by decide +kernel
theorem dX2_meet_7 : decode cX2_meet 7 = .ok (.iload_n 2, 1) := by decide +kernel
theorem dX2_meet_8 : decode cX2_meet 8 = .ok (.iconst 0, 1) := by decide +kernel
theorem dX2_meet_9 : decode cX2_meet 9 = .ok (.invokevirtual 77, 3) := by decide +kernel
theorem dX2_meet_12 : decode cX2_meet 12 = .ok (.land, 1) := by decide +kernel
theorem dX2_meet_13 : decode cX2_meet 13 = .ok (.lconst 0, 1) := by decide +kernel
theorem dX2_meet_14 : decode cX2_meet 14 = .ok (.lcmp, 1) := by decide +kernel
theorem dX2_meet_15 : decode cX2_meet 15 = .ok (.ifCond .ne 21, 3) := by decide +kernel
theorem dX2_meet_18 : decode cX2_meet 18 = .ok (.aload_n 0, 1) := by decide +kernel
theorem dX2_meet_19 : decode cX2_meet 19 = .ok (.iload_n 1, 1) := by decide +kernel
theorem dX2_meet_20 : decode cX2_meet 20 = .ok (.iconst 1, 1) := by decide +kernel
theorem dX2_meet_21 : decode cX2_meet 21 = .ok (.invokevirtual 77, 3) := by decide +kernel
theorem dX2_meet_24 : decode cX2_meet 24 = .ok (.aload_n 0, 1) := by decide +kernel
theorem dX2_meet_25 : decode cX2_meet 25 = .ok (.iload_n 2, 1) := by decide +kernel
theorem dX2_meet_26 : decode cX2_meet 26 = .ok (.iconst 1, 1) := by decide +kernel
theorem dX2_meet_27 : decode cX2_meet 27 = .ok (.invokevirtual 77, 3) := by decide +kernel
theorem dX2_meet_30 : decode cX2_meet 30 = .ok (.land, 1) := by decide +kernel
theorem dX2_meet_31 : decode cX2_meet 31 = .ok (.lconst 0, 1) := by decide +kernel
theorem dX2_meet_32 : decode cX2_meet 32 = .ok (.lcmp, 1) := by decide +kernel
theorem dX2_meet_33 : decode cX2_meet 33 = .ok (.ifCond .eq 7, 3) := by decide +kernel
theorem dX2_meet_36 : decode cX2_meet 36 = .ok (.iconst 1, 1) := by decide +kernel
theorem dX2_meet_37 : decode cX2_meet 37 = .ok (.goto 4, 3) := by decide +kernel
theorem dX2_meet_40 : decode cX2_meet 40 = .ok (.iconst 0, 1) := by decide +kernel
theorem dX2_meet_41 : decode cX2_meet 41 = .ok (.ireturn, 1) := by decide +kernel
set_option maxRecDepth 20000 in
theorem ggX2_wayOf_X2_valuesOf : GoodIn wsX2_wayOf wsX2_valuesOf := goodIn_r _ [5, 6, 7, 8, 9, 10, 11, 12, 4, 13, 14, 15, 16, 17, 18, 19, 20, 21, 22] (by decide +kernel) (by decide +kernel)
set_option maxRecDepth 20000 in
theorem gX2_wayOf_X2_valuesOf : GoodIn wsX2_wayOf (wsV RX2 81 RX2 yX2_valuesOf wsX2_valuesOf) := goodIn_app (goodIn_of _ (by decide +kernel)) ggX2_wayOf_X2_valuesOf
theorem dX2_wayOf_0 : decode cX2_wayOf 0 = .ok (.aload_n 0, 1) := by decide +kernel
theorem dX2_wayOf_1 : decode cX2_wayOf 1 = .ok (.iload_n 1, 1) := by decide +kernel
theorem dX2_wayOf_2 : decode cX2_wayOf 2 = .ok (.iload_n 2, 1) := by decide +kernel
theorem dX2_wayOf_3 : decode cX2_wayOf 3 = .ok (.iconst 0, 1) := by decide +kernel
theorem dX2_wayOf_4 : decode cX2_wayOf 4 = .ok (.invokevirtual 81, 3) := by decide +kernel
theorem dX2_wayOf_7 : decode cX2_wayOf 7 = .ok (.istore_n 3, 1) := by decide +kernel
theorem dX2_wayOf_8 : decode cX2_wayOf 8 = .ok (.aload_n 0, 1) := by decide +kernel
theorem dX2_wayOf_9 : decode cX2_wayOf 9 = .ok (.iload_n 1, 1) := by decide +kernel
theorem dX2_wayOf_10 : decode cX2_wayOf 10 = .ok (.iload_n 2, 1) := by decide +kernel
theorem dX2_wayOf_11 : decode cX2_wayOf 11 = .ok (.iconst 1, 1) := by decide +kernel
theorem dX2_wayOf_12 : decode cX2_wayOf 12 = .ok (.invokevirtual 81, 3) := by decide +kernel
theorem dX2_wayOf_15 : decode cX2_wayOf 15 = .ok (.istore 4, 2) := by decide +kernel
theorem dX2_wayOf_17 : decode cX2_wayOf 17 = .ok (.iload_n 3, 1) := by decide +kernel
theorem dX2_wayOf_18 : decode cX2_wayOf 18 = .ok (.ifCond .ne 14, 3) := by decide +kernel
theorem dX2_wayOf_21 : decode cX2_wayOf 21 = .ok (.iload 4, 2) := by decide +kernel
theorem dX2_wayOf_23 : decode cX2_wayOf 23 = .ok (.ifCond .ne 7, 3) := by decide +kernel
theorem dX2_wayOf_26 : decode cX2_wayOf 26 = .ok (.iconst 4, 1) := by decide +kernel
theorem dX2_wayOf_27 : decode cX2_wayOf 27 = .ok (.goto 4, 3) := by decide +kernel
theorem dX2_wayOf_30 : decode cX2_wayOf 30 = .ok (.iconst 0, 1) := by decide +kernel
theorem dX2_wayOf_31 : decode cX2_wayOf 31 = .ok (.ireturn, 1) := by decide +kernel
theorem dX2_wayOf_32 : decode cX2_wayOf 32 = .ok (.iload 4, 2) := by decide +kernel
theorem dX2_wayOf_34 : decode cX2_wayOf 34 = .ok (.ifCond .ne 5, 3) := by decide +kernel
theorem dX2_wayOf_37 : decode cX2_wayOf 37 = .ok (.iconst 1, 1) := by decide +kernel
theorem dX2_wayOf_38 : decode cX2_wayOf 38 = .ok (.ireturn, 1) := by decide +kernel
theorem dX2_wayOf_39 : decode cX2_wayOf 39 = .ok (.iload_n 3, 1) := by decide +kernel
theorem dX2_wayOf_40 : decode cX2_wayOf 40 = .ok (.iload 4, 2) := by decide +kernel
theorem dX2_wayOf_42 : decode cX2_wayOf 42 = .ok (.if_icmp .ne 7, 3) := by decide +kernel
theorem dX2_wayOf_45 : decode cX2_wayOf 45 = .ok (.iconst 2, 1) := by decide +kernel
theorem dX2_wayOf_46 : decode cX2_wayOf 46 = .ok (.goto 4, 3) := by decide +kernel
theorem dX2_wayOf_49 : decode cX2_wayOf 49 = .ok (.iconst 3, 1) := by decide +kernel
theorem dX2_wayOf_50 : decode cX2_wayOf 50 = .ok (.ireturn, 1) := by decide +kernel
set_option maxRecDepth 20000 in
theorem ggX2_valuesOf_X2_valueOf : GoodIn wsX2_valuesOf wsX2_valueOf := goodIn_r _ [9, 10, 11, 12, 13, 14, 15, 16, 17, 18] (by decide +kernel) (by decide +kernel)
set_option maxRecDepth 20000 in
theorem gX2_valuesOf_X2_valueOf : GoodIn wsX2_valuesOf (wsV RX2 45 RX2 yX2_valueOf wsX2_valueOf) := goodIn_app (goodIn_of _ (by decide +kernel)) ggX2_valuesOf_X2_valueOf
theorem dX2_valuesOf_0 : decode cX2_valuesOf 0 = .ok (.iconst 0, 1) := by decide +kernel
theorem dX2_valuesOf_1 : decode cX2_valuesOf 1 = .ok (.istore 4, 2) := by decide +kernel
theorem dX2_valuesOf_3 : decode cX2_valuesOf 3 = .ok (.iconst 0, 1) := by decide +kernel
theorem dX2_valuesOf_4 : decode cX2_valuesOf 4 = .ok (.istore 5, 2) := by decide +kernel
theorem dX2_valuesOf_6 : decode cX2_valuesOf 6 = .ok (.iload 5, 2) := by decide +kernel
theorem dX2_valuesOf_8 : decode cX2_valuesOf 8 = .ok (.aload_n 0, 1) := by decide +kernel
theorem dX2_valuesOf_9 : decode cX2_valuesOf 9 = .ok (.getfield 33, 3) := by decide +kernel
theorem dX2_valuesOf_12 : decode cX2_valuesOf 12 = .ok (.if_icmp .ge 55, 3) := by decide +kernel
theorem dX2_valuesOf_15 : decode cX2_valuesOf 15 = .ok (.aload_n 0, 1) := by decide +kernel
theorem dX2_valuesOf_16 : decode cX2_valuesOf 16 = .ok (.getfield 30, 3) := by decide +kernel
theorem dX2_valuesOf_19 : decode cX2_valuesOf 19 = .ok (.iload 5, 2) := by decide +kernel
theorem dX2_valuesOf_21 : decode cX2_valuesOf 21 = .ok (.iaload, 1) := by decide +kernel
theorem dX2_valuesOf_22 : decode cX2_valuesOf 22 = .ok (.ifCond .ne 39, 3) := by decide +kernel
theorem dX2_valuesOf_25 : decode cX2_valuesOf 25 = .ok (.aload_n 0, 1) := by decide +kernel
theorem dX2_valuesOf_26 : decode cX2_valuesOf 26 = .ok (.getfield 24, 3) := by decide +kernel
theorem dX2_valuesOf_29 : decode cX2_valuesOf 29 = .ok (.iload 5, 2) := by decide +kernel
theorem dX2_valuesOf_31 : decode cX2_valuesOf 31 = .ok (.iaload, 1) := by decide +kernel
theorem dX2_valuesOf_32 : decode cX2_valuesOf 32 = .ok (.iload_n 2, 1) := by decide +kernel
theorem dX2_valuesOf_33 : decode cX2_valuesOf 33 = .ok (.if_icmp .ne 28, 3) := by decide +kernel
theorem dX2_valuesOf_36 : decode cX2_valuesOf 36 = .ok (.aload_n 0, 1) := by decide +kernel
theorem dX2_valuesOf_37 : decode cX2_valuesOf 37 = .ok (.getfield 9, 3) := by decide +kernel
theorem dX2_valuesOf_40 : decode cX2_valuesOf 40 = .ok (.iload 5, 2) := by decide +kernel
theorem dX2_valuesOf_42 : decode cX2_valuesOf 42 = .ok (.iaload, 1) := by decide +kernel
theorem dX2_valuesOf_43 : decode cX2_valuesOf 43 = .ok (.iload_n 3, 1) := by decide +kernel
theorem dX2_valuesOf_44 : decode cX2_valuesOf 44 = .ok (.if_icmp .ne 17, 3) := by decide +kernel
theorem dX2_valuesOf_47 : decode cX2_valuesOf 47 = .ok (.iload 4, 2) := by decide +kernel
theorem dX2_valuesOf_49 : decode cX2_valuesOf 49 = .ok (.iconst 1, 1) := by decide +kernel
theorem dX2_valuesOf_50 : decode cX2_valuesOf 50 = .ok (.aload_n 0, 1) := by decide +kernel
theorem dX2_valuesOf_51 : decode cX2_valuesOf 51 = .ok (.iload 5, 2) := by decide +kernel
theorem dX2_valuesOf_53 : decode cX2_valuesOf 53 = .ok (.iload_n 1, 1) := by decide +kernel
theorem dX2_valuesOf_54 : decode cX2_valuesOf 54 = .ok (.invokevirtual 45, 3) := by decide +kernel
theorem dX2_valuesOf_57 : decode cX2_valuesOf 57 = .ok (.ishl, 1) := by decide +kernel
theorem dX2_valuesOf_58 : decode cX2_valuesOf 58 = .ok (.ior, 1) := by decide +kernel
theorem dX2_valuesOf_59 : decode cX2_valuesOf 59 = .ok (.istore 4, 2) := by decide +kernel
theorem dX2_valuesOf_61 : decode cX2_valuesOf 61 = .ok (.iinc 5 1, 3) := by decide +kernel
theorem dX2_valuesOf_64 : decode cX2_valuesOf 64 = .ok (.goto (-58), 3) := by decide +kernel
theorem dX2_valuesOf_67 : decode cX2_valuesOf 67 = .ok (.iload 4, 2) := by decide +kernel
theorem dX2_valuesOf_69 : decode cX2_valuesOf 69 = .ok (.ireturn, 1) := by decide +kernel
set_option maxRecDepth 20000 in
theorem ggX2_inUnits_X2_moved : GoodIn wsX2_inUnits wsX2_moved := goodIn_r _ [6, 7, 8, 9, 5, 10, 11, 12, 13, 14, 15, 16, 17, 18, 19, 20, 21, 22, 23, 24, 25, 26, 27, 28, 29, 30, 31, 32, 33, 34, 35, 36, 37, 38, 59, 60, 61, 62, 63, 64, 65, 66] (by decide +kernel) (by decide +kernel)
set_option maxRecDepth 20000 in
theorem gX2_inUnits_X2_moved : GoodIn wsX2_inUnits (wsV RX2 85 RX2 yX2_moved wsX2_moved) := goodIn_app (goodIn_of _ (by decide +kernel)) ggX2_inUnits_X2_moved
set_option maxRecDepth 20000 in
theorem ggX2_inUnits_J9_floorDiv_7cf53 : GoodIn wsX2_inUnits wsJ9_floorDiv_7cf53 := goodIn_r _ [42] (by decide +kernel) (by decide +kernel)
set_option maxRecDepth 20000 in
theorem gX2_inUnits_J9_floorDiv_7cf53 : GoodIn wsX2_inUnits (va_wsS RX2 88 yJ9_floorDiv_7cf53 wsJ9_floorDiv_7cf53) := goodIn_app (goodIn_of _ (by decide +kernel)) ggX2_inUnits_J9_floorDiv_7cf53
set_option maxRecDepth 20000 in
theorem ggX2_inUnits_X1_withTest : GoodIn wsX2_inUnits wsX1_withTest := goodIn_r _ [45, 46, 47, 48, 18, 49, 50, 51, 52, 53, 54, 55, 20, 21, 22] (by decide +kernel) (by decide +kernel)
set_option maxRecDepth 20000 in
theorem gX2_inUnits_X1_withTest : GoodIn wsX2_inUnits (va_wsS RX2 91 yX1_withTest wsX1_withTest) := goodIn_app (goodIn_of _ (by decide +kernel)) ggX2_inUnits_X1_withTest
set_option maxRecDepth 20000 in
theorem ggX2_inUnits_J9_floorMod_7cf53 : GoodIn wsX2_inUnits wsJ9_floorMod_7cf53 := goodIn_r _ [58] (by decide +kernel) (by decide +kernel)
set_option maxRecDepth 20000 in
theorem gX2_inUnits_J9_floorMod_7cf53 : GoodIn wsX2_inUnits (va_wsS RX2 94 yJ9_floorMod_7cf53 wsJ9_floorMod_7cf53) := goodIn_app (goodIn_of _ (by decide +kernel)) ggX2_inUnits_J9_floorMod_7cf53
theorem dX2_inUnits_0 : decode cX2_inUnits 0 = .ok (.iload 4, 2) := by decide +kernel
theorem dX2_inUnits_2 : decode cX2_inUnits 2 = .ok (.iconst 1, 1) := by decide +kernel
theorem dX2_inUnits_3 : decode cX2_inUnits 3 = .ok (.if_icmp .ge 6, 3) := by decide +kernel
theorem dX2_inUnits_6 : decode cX2_inUnits 6 = .ok (.ldc 84, 2) := by decide +kernel
theorem dX2_inUnits_8 : decode cX2_inUnits 8 = .ok (.ireturn, 1) := by decide +kernel
theorem dX2_inUnits_9 : decode cX2_inUnits 9 = .ok (.aload_n 0, 1) := by decide +kernel
theorem dX2_inUnits_10 : decode cX2_inUnits 10 = .ok (.iload_n 1, 1) := by decide +kernel
theorem dX2_inUnits_11 : decode cX2_inUnits 11 = .ok (.iconst 0, 1) := by decide +kernel
theorem dX2_inUnits_12 : decode cX2_inUnits 12 = .ok (.invokevirtual 85, 3) := by decide +kernel
theorem dX2_inUnits_15 : decode cX2_inUnits 15 = .ok (.iload 4, 2) := by decide +kernel
theorem dX2_inUnits_17 : decode cX2_inUnits 17 = .ok (.invokestatic 88, 3) := by decide +kernel
theorem dX2_inUnits_20 : decode cX2_inUnits 20 = .ok (.istore 5, 2) := by decide +kernel
theorem dX2_inUnits_22 : decode cX2_inUnits 22 = .ok (.iload_n 3, 1) := by decide +kernel
theorem dX2_inUnits_23 : decode cX2_inUnits 23 = .ok (.bipush 8, 2) := by decide +kernel
theorem dX2_inUnits_25 : decode cX2_inUnits 25 = .ok (.if_icmp .ne 6, 3) := by decide +kernel
theorem dX2_inUnits_28 : decode cX2_inUnits 28 = .ok (.iload 5, 2) := by decide +kernel
theorem dX2_inUnits_30 : decode cX2_inUnits 30 = .ok (.ireturn, 1) := by decide +kernel
theorem dX2_inUnits_31 : decode cX2_inUnits 31 = .ok (.aload_n 0, 1) := by decide +kernel
theorem dX2_inUnits_32 : decode cX2_inUnits 32 = .ok (.iload_n 1, 1) := by decide +kernel
theorem dX2_inUnits_33 : decode cX2_inUnits 33 = .ok (.iload_n 2, 1) := by decide +kernel
theorem dX2_inUnits_34 : decode cX2_inUnits 34 = .ok (.iload_n 3, 1) := by decide +kernel
theorem dX2_inUnits_35 : decode cX2_inUnits 35 = .ok (.invokestatic 91, 3) := by decide +kernel
theorem dX2_inUnits_38 : decode cX2_inUnits 38 = .ok (.iconst 0, 1) := by decide +kernel
theorem dX2_inUnits_39 : decode cX2_inUnits 39 = .ok (.invokevirtual 85, 3) := by decide +kernel
theorem dX2_inUnits_42 : decode cX2_inUnits 42 = .ok (.istore 6, 2) := by decide +kernel
theorem dX2_inUnits_44 : decode cX2_inUnits 44 = .ok (.iload 6, 2) := by decide +kernel
theorem dX2_inUnits_46 : decode cX2_inUnits 46 = .ok (.iload 4, 2) := by decide +kernel
theorem dX2_inUnits_48 : decode cX2_inUnits 48 = .ok (.invokestatic 94, 3) := by decide +kernel
theorem dX2_inUnits_51 : decode cX2_inUnits 51 = .ok (.istore 7, 2) := by decide +kernel
theorem dX2_inUnits_53 : decode cX2_inUnits 53 = .ok (.iload 5, 2) := by decide +kernel
theorem dX2_inUnits_55 : decode cX2_inUnits 55 = .ok (.istore 8, 2) := by decide +kernel
theorem dX2_inUnits_57 : decode cX2_inUnits 57 = .ok (.iconst 0, 1) := by decide +kernel
theorem dX2_inUnits_58 : decode cX2_inUnits 58 = .ok (.istore 9, 2) := by decide +kernel
theorem dX2_inUnits_60 : decode cX2_inUnits 60 = .ok (.iconst 0, 1) := by decide +kernel
theorem dX2_inUnits_61 : decode cX2_inUnits 61 = .ok (.istore 10, 2) := by decide +kernel
theorem dX2_inUnits_63 : decode cX2_inUnits 63 = .ok (.iload 10, 2) := by decide +kernel
theorem dX2_inUnits_65 : decode cX2_inUnits 65 = .ok (.bipush 8, 2) := by decide +kernel
theorem dX2_inUnits_67 : decode cX2_inUnits 67 = .ok (.if_icmp .ge 67, 3) := by decide +kernel
theorem dX2_inUnits_70 : decode cX2_inUnits 70 = .ok (.aload_n 0, 1) := by decide +kernel
theorem dX2_inUnits_71 : decode cX2_inUnits 71 = .ok (.iload_n 1, 1) := by decide +kernel
theorem dX2_inUnits_72 : decode cX2_inUnits 72 = .ok (.iload_n 2, 1) := by decide +kernel
theorem dX2_inUnits_73 : decode cX2_inUnits 73 = .ok (.iload 10, 2) := by decide +kernel
theorem dX2_inUnits_75 : decode cX2_inUnits 75 = .ok (.invokestatic 91, 3) := by decide +kernel
theorem dX2_inUnits_78 : decode cX2_inUnits 78 = .ok (.iconst 0, 1) := by decide +kernel
theorem dX2_inUnits_79 : decode cX2_inUnits 79 = .ok (.invokevirtual 85, 3) := by decide +kernel
theorem dX2_inUnits_82 : decode cX2_inUnits 82 = .ok (.istore 11, 2) := by decide +kernel
theorem dX2_inUnits_84 : decode cX2_inUnits 84 = .ok (.iload 11, 2) := by decide +kernel
theorem dX2_inUnits_86 : decode cX2_inUnits 86 = .ok (.iload 4, 2) := by decide +kernel
theorem dX2_inUnits_88 : decode cX2_inUnits 88 = .ok (.invokestatic 94, 3) := by decide +kernel
theorem dX2_inUnits_91 : decode cX2_inUnits 91 = .ok (.istore 12, 2) := by decide +kernel
theorem dX2_inUnits_93 : decode cX2_inUnits 93 = .ok (.iload 8, 2) := by decide +kernel
theorem dX2_inUnits_95 : decode cX2_inUnits 95 = .ok (.iload 11, 2) := by decide +kernel
theorem dX2_inUnits_97 : decode cX2_inUnits 97 = .ok (.iload 4, 2) := by decide +kernel
theorem dX2_inUnits_99 : decode cX2_inUnits 99 = .ok (.invokestatic 88, 3) := by decide +kernel
theorem dX2_inUnits_102 : decode cX2_inUnits 102 = .ok (.isub, 1) := by decide +kernel
theorem dX2_inUnits_103 : decode cX2_inUnits 103 = .ok (.istore 8, 2) := by decide +kernel
theorem dX2_inUnits_105 : decode cX2_inUnits 105 = .ok (.iload 12, 2) := by decide +kernel
theorem dX2_inUnits_107 : decode cX2_inUnits 107 = .ok (.iload 7, 2) := by decide +kernel
theorem dX2_inUnits_109 : decode cX2_inUnits 109 = .ok (.if_icmp .gt 16, 3) := by decide +kernel
theorem dX2_inUnits_112 : decode cX2_inUnits 112 = .ok (.iload 12, 2) := by decide +kernel
theorem dX2_inUnits_114 : decode cX2_inUnits 114 = .ok (.iload 7, 2) := by decide +kernel
theorem dX2_inUnits_116 : decode cX2_inUnits 116 = .ok (.if_icmp .ne 12, 3) := by decide +kernel
theorem dX2_inUnits_119 : decode cX2_inUnits 119 = .ok (.iload 10, 2) := by decide +kernel
theorem dX2_inUnits_121 : decode cX2_inUnits 121 = .ok (.iload_n 3, 1) := by decide +kernel
theorem dX2_inUnits_122 : decode cX2_inUnits 122 = .ok (.if_icmp .ge 6, 3) := by decide +kernel
theorem dX2_inUnits_125 : decode cX2_inUnits 125 = .ok (.iinc 9 1, 3) := by decide +kernel
theorem dX2_inUnits_128 : decode cX2_inUnits 128 = .ok (.iinc 10 1, 3) := by decide +kernel
theorem dX2_inUnits_131 : decode cX2_inUnits 131 = .ok (.goto (-68), 3) := by decide +kernel
theorem dX2_inUnits_134 : decode cX2_inUnits 134 = .ok (.iload 6, 2) := by decide +kernel
theorem dX2_inUnits_136 : decode cX2_inUnits 136 = .ok (.iload 4, 2) := by decide +kernel
theorem dX2_inUnits_138 : decode cX2_inUnits 138 = .ok (.invokestatic 88, 3) := by decide +kernel
theorem dX2_inUnits_141 : decode cX2_inUnits 141 = .ok (.iload 9, 2) := by decide +kernel
theorem dX2_inUnits_143 : decode cX2_inUnits 143 = .ok (.iload 8, 2) := by decide +kernel
theorem dX2_inUnits_145 : decode cX2_inUnits 145 = .ok (.if_icmp .ge 7, 3) := by decide +kernel
theorem dX2_inUnits_148 : decode cX2_inUnits 148 = .ok (.iconst 1, 1) := by decide +kernel
theorem dX2_inUnits_149 : decode cX2_inUnits 149 = .ok (.goto 4, 3) := by decide +kernel
theorem dX2_inUnits_152 : decode cX2_inUnits 152 = .ok (.iconst 0, 1) := by decide +kernel
theorem dX2_inUnits_153 : decode cX2_inUnits 153 = .ok (.iadd, 1) := by decide +kernel
theorem dX2_inUnits_154 : decode cX2_inUnits 154 = .ok (.ireturn, 1) := by decide +kernel
set_option maxRecDepth 20000 in
theorem ggX2_firstDay_X2_movedUpTo : GoodIn wsX2_firstDay wsX2_movedUpTo := goodIn_r _ [9, 10, 11, 12, 13, 14, 15, 16, 17, 18, 19, 20, 21, 22, 23, 24, 25, 26, 8, 27, 28, 29, 30, 31, 32, 33, 34, 35, 36, 37] (by decide +kernel) (by decide +kernel)
set_option maxRecDepth 20000 in
theorem gX2_firstDay_X2_movedUpTo : GoodIn wsX2_firstDay (wsV RX2 97 RX2 yX2_movedUpTo wsX2_movedUpTo) := goodIn_app (goodIn_of _ (by decide +kernel)) ggX2_firstDay_X2_movedUpTo
theorem dX2_firstDay_0 : decode cX2_firstDay 0 = .ok (.iconst 0, 1) := by decide +kernel
theorem dX2_firstDay_1 : decode cX2_firstDay 1 = .ok (.istore_n 3, 1) := by decide +kernel
theorem dX2_firstDay_2 : decode cX2_firstDay 2 = .ok (.iload_n 3, 1) := by decide +kernel
theorem dX2_firstDay_3 : decode cX2_firstDay 3 = .ok (.bipush 31, 2) := by decide +kernel
theorem dX2_firstDay_5 : decode cX2_firstDay 5 = .ok (.if_icmp .ge 24, 3) := by decide +kernel
theorem dX2_firstDay_8 : decode cX2_firstDay 8 = .ok (.aload_n 0, 1) := by decide +kernel
theorem dX2_firstDay_9 : decode cX2_firstDay 9 = .ok (.iload_n 1, 1) := by decide +kernel
theorem dX2_firstDay_10 : decode cX2_firstDay 10 = .ok (.iload_n 3, 1) := by decide +kernel
theorem dX2_firstDay_11 : decode cX2_firstDay 11 = .ok (.invokevirtual 97, 3) := by decide +kernel
theorem dX2_firstDay_14 : decode cX2_firstDay 14 = .ok (.invokestatic 100, 3) := by decide +kernel
theorem dX2_firstDay_17 : decode cX2_firstDay 17 = .ok (.iload_n 2, 1) := by decide +kernel
theorem dX2_firstDay_18 : decode cX2_firstDay 18 = .ok (.if_icmp .le 5, 3) := by decide +kernel
theorem dX2_firstDay_21 : decode cX2_firstDay 21 = .ok (.iload_n 3, 1) := by decide +kernel
theorem dX2_firstDay_22 : decode cX2_firstDay 22 = .ok (.ireturn, 1) := by decide +kernel
theorem dX2_firstDay_23 : decode cX2_firstDay 23 = .ok (.iinc 3 1, 3) := by decide +kernel
theorem dX2_firstDay_26 : decode cX2_firstDay 26 = .ok (.goto (-24), 3) := by decide +kernel
theorem dX2_firstDay_29 : decode cX2_firstDay 29 = .ok (.bipush 31, 2) := by decide +kernel
theorem dX2_firstDay_31 : decode cX2_firstDay 31 = .ok (.ireturn, 1) := by decide +kernel
set_option maxRecDepth 20000 in
theorem ggX2_movedUpTo_X1_testedBits : GoodIn wsX2_movedUpTo wsX1_testedBits := goodIn_r _ [8, 9, 10, 7, 11] (by decide +kernel) (by decide +kernel)
set_option maxRecDepth 20000 in
theorem gX2_movedUpTo_X1_testedBits : GoodIn wsX2_movedUpTo (va_wsS RX2 49 yX1_testedBits wsX1_testedBits) := goodIn_app (goodIn_of _ (by decide +kernel)) ggX2_movedUpTo_X1_testedBits
set_option maxRecDepth 20000 in
theorem ggX2_movedUpTo_X1_wantedBits : GoodIn wsX2_movedUpTo wsX1_wantedBits := goodIn_r _ [14, 9, 10, 7, 11] (by decide +kernel) (by decide +kernel)
set_option maxRecDepth 20000 in
theorem gX2_movedUpTo_X1_wantedBits : GoodIn wsX2_movedUpTo (va_wsS RX2 55 yX1_wantedBits wsX1_wantedBits) := goodIn_app (goodIn_of _ (by decide +kernel)) ggX2_movedUpTo_X1_wantedBits
set_option maxRecDepth 20000 in
theorem ggX2_movedUpTo_X2_fits : GoodIn wsX2_movedUpTo wsX2_fits := goodIn_r _ [19, 20, 21, 22, 23, 24, 25, 26, 27, 28, 29] (by decide +kernel) (by decide +kernel)
set_option maxRecDepth 20000 in
theorem gX2_movedUpTo_X2_fits : GoodIn wsX2_movedUpTo (wsV RX2 58 RX2 yX2_fits wsX2_fits) := goodIn_app (goodIn_of _ (by decide +kernel)) ggX2_movedUpTo_X2_fits
theorem dX2_movedUpTo_0 : decode cX2_movedUpTo 0 = .ok (.iload_n 1, 1) := by decide +kernel
theorem dX2_movedUpTo_1 : decode cX2_movedUpTo 1 = .ok (.invokestatic 49, 3) := by decide +kernel
theorem dX2_movedUpTo_4 : decode cX2_movedUpTo 4 = .ok (.istore_n 3, 1) := by decide +kernel
theorem dX2_movedUpTo_5 : decode cX2_movedUpTo 5 = .ok (.iload_n 1, 1) := by decide +kernel
theorem dX2_movedUpTo_6 : decode cX2_movedUpTo 6 = .ok (.invokestatic 55, 3) := by decide +kernel
theorem dX2_movedUpTo_9 : decode cX2_movedUpTo 9 = .ok (.istore 4, 2) := by decide +kernel
theorem dX2_movedUpTo_11 : decode cX2_movedUpTo 11 = .ok (.iconst 0, 1) := by decide +kernel
theorem dX2_movedUpTo_12 : decode cX2_movedUpTo 12 = .ok (.istore 5, 2) := by decide +kernel
theorem dX2_movedUpTo_14 : decode cX2_movedUpTo 14 = .ok (.iconst 0, 1) := by decide +kernel
theorem dX2_movedUpTo_15 : decode cX2_movedUpTo 15 = .ok (.istore 6, 2) := by decide +kernel
theorem dX2_movedUpTo_17 : decode cX2_movedUpTo 17 = .ok (.iload 6, 2) := by decide +kernel
theorem dX2_movedUpTo_19 : decode cX2_movedUpTo 19 = .ok (.aload_n 0, 1) := by decide +kernel
theorem dX2_movedUpTo_20 : decode cX2_movedUpTo 20 = .ok (.getfield 33, 3) := by decide +kernel
theorem dX2_movedUpTo_23 : decode cX2_movedUpTo 23 = .ok (.if_icmp .ge 66, 3) := by decide +kernel
theorem dX2_movedUpTo_26 : decode cX2_movedUpTo 26 = .ok (.aload_n 0, 1) := by decide +kernel
theorem dX2_movedUpTo_27 : decode cX2_movedUpTo 27 = .ok (.getfield 15, 3) := by decide +kernel
theorem dX2_movedUpTo_30 : decode cX2_movedUpTo 30 = .ok (.iload 6, 2) := by decide +kernel
theorem dX2_movedUpTo_32 : decode cX2_movedUpTo 32 = .ok (.iaload, 1) := by decide +kernel
theorem dX2_movedUpTo_33 : decode cX2_movedUpTo 33 = .ok (.iload_n 2, 1) := by decide +kernel
theorem dX2_movedUpTo_34 : decode cX2_movedUpTo 34 = .ok (.if_icmp .gt 49, 3) := by decide +kernel
theorem dX2_movedUpTo_37 : decode cX2_movedUpTo 37 = .ok (.aload_n 0, 1) := by decide +kernel
theorem dX2_movedUpTo_38 : decode cX2_movedUpTo 38 = .ok (.iload 6, 2) := by decide +kernel
theorem dX2_movedUpTo_40 : decode cX2_movedUpTo 40 = .ok (.iload_n 3, 1) := by decide +kernel
theorem dX2_movedUpTo_41 : decode cX2_movedUpTo 41 = .ok (.iload 4, 2) := by decide +kernel
theorem dX2_movedUpTo_43 : decode cX2_movedUpTo 43 = .ok (.invokevirtual 58, 3) := by decide +kernel
theorem dX2_movedUpTo_46 : decode cX2_movedUpTo 46 = .ok (.ifCond .eq 37, 3) := by decide +kernel
theorem dX2_movedUpTo_49 : decode cX2_movedUpTo 49 = .ok (.iload 5, 2) := by decide +kernel
theorem dX2_movedUpTo_51 : decode cX2_movedUpTo 51 = .ok (.aload_n 0, 1) := by decide +kernel
theorem dX2_movedUpTo_52 : decode cX2_movedUpTo 52 = .ok (.getfield 9, 3) := by decide +kernel
theorem dX2_movedUpTo_55 : decode cX2_movedUpTo 55 = .ok (.iload 6, 2) := by decide +kernel
theorem dX2_movedUpTo_57 : decode cX2_movedUpTo 57 = .ok (.iaload, 1) := by decide +kernel
theorem dX2_movedUpTo_58 : decode cX2_movedUpTo 58 = .ok (.iconst 1, 1) := by decide +kernel
theorem dX2_movedUpTo_59 : decode cX2_movedUpTo 59 = .ok (.if_icmp .ne 13, 3) := by decide +kernel
theorem dX2_movedUpTo_62 : decode cX2_movedUpTo 62 = .ok (.aload_n 0, 1) := by decide +kernel
theorem dX2_movedUpTo_63 : decode cX2_movedUpTo 63 = .ok (.getfield 18, 3) := by decide +kernel
theorem dX2_movedUpTo_66 : decode cX2_movedUpTo 66 = .ok (.iload 6, 2) := by decide +kernel
theorem dX2_movedUpTo_68 : decode cX2_movedUpTo 68 = .ok (.iaload, 1) := by decide +kernel
theorem dX2_movedUpTo_69 : decode cX2_movedUpTo 69 = .ok (.goto 11, 3) := by decide +kernel
theorem dX2_movedUpTo_72 : decode cX2_movedUpTo 72 = .ok (.aload_n 0, 1) := by decide +kernel
theorem dX2_movedUpTo_73 : decode cX2_movedUpTo 73 = .ok (.getfield 18, 3) := by decide +kernel
theorem dX2_movedUpTo_76 : decode cX2_movedUpTo 76 = .ok (.iload 6, 2) := by decide +kernel
theorem dX2_movedUpTo_78 : decode cX2_movedUpTo 78 = .ok (.iaload, 1) := by decide +kernel
theorem dX2_movedUpTo_79 : decode cX2_movedUpTo 79 = .ok (.ineg, 1) := by decide +kernel
theorem dX2_movedUpTo_80 : decode cX2_movedUpTo 80 = .ok (.iadd, 1) := by decide +kernel
theorem dX2_movedUpTo_81 : decode cX2_movedUpTo 81 = .ok (.istore 5, 2) := by decide +kernel
theorem dX2_movedUpTo_83 : decode cX2_movedUpTo 83 = .ok (.iinc 6 1, 3) := by decide +kernel
theorem dX2_movedUpTo_86 : decode cX2_movedUpTo 86 = .ok (.goto (-69), 3) := by decide +kernel
theorem dX2_movedUpTo_89 : decode cX2_movedUpTo 89 = .ok (.iload 5, 2) := by decide +kernel
theorem dX2_movedUpTo_91 : decode cX2_movedUpTo 91 = .ok (.ireturn, 1) := by decide +kernel
theorem dX3_init_0 : decode cX3_init 0 = .ok (.aload_n 0, 1) := by decide +kernel
theorem dX3_init_1 : decode cX3_init 1 = .ok (.invokespecial 3, 3) := by decide +kernel
theorem dX3_init_4 : decode cX3_init 4 = .ok (.aload_n 0, 1) := by decide +kernel
theorem dX3_init_5 : decode cX3_init 5 = .ok (.aload_n 1, 1) := by decide +kernel
theorem dX3_init_6 : decode cX3_init 6 = .ok (.putfield 9, 3) := by decide +kernel
theorem dX3_init_9 : decode cX3_init 9 = .ok (.aload_n 0, 1) := by decide +kernel
theorem dX3_init_10 : decode cX3_init 10 = .ok (.sipush 216, 3) := by decide +kernel
theorem dX3_init_13 : decode cX3_init 13 = .ok (.newarray .int, 2) := by decide +kernel
theorem dX3_init_15 : decode cX3_init 15 = .ok (.putfield 15, 3) := by decide +kernel
theorem dX3_init_18 : decode cX3_init 18 = .ok (.aload_n 0, 1) := by decide +kernel
theorem dX3_init_19 : decode cX3_init 19 = .ok (.sipush 216, 3) := by decide +kernel
theorem dX3_init_22 : decode cX3_init 22 = .ok (.newarray .int, 2) := by decide +kernel
theorem dX3_init_24 : decode cX3_init 24 = .ok (.putfield 19, 3) := by decide +kernel
theorem dX3_init_27 : decode cX3_init 27 = .ok (.aload_n 0, 1) := by decide +kernel
theorem dX3_init_28 : decode cX3_init 28 = .ok (.sipush 216, 3) := by decide +kernel
theorem dX3_init_31 : decode cX3_init 31 = .ok (.newarray .int, 2) := by decide +kernel
theorem dX3_init_33 : decode cX3_init 33 = .ok (.putfield 22, 3) := by decide +kernel
theorem dX3_init_36 : decode cX3_init 36 = .ok (.aload_n 0, 1) := by decide +kernel
theorem dX3_init_37 : decode cX3_init 37 = .ok (.sipush 216, 3) := by decide +kernel
theorem dX3_init_40 : decode cX3_init 40 = .ok (.newarray .long, 2) := by decide +kernel
theorem dX3_init_42 : decode cX3_init 42 = .ok (.putfield 25, 3) := by decide +kernel
theorem dX3_init_45 : decode cX3_init 45 = .ok (.aload_n 0, 1) := by decide +kernel
theorem dX3_init_46 : decode cX3_init 46 = .ok (.sipush 216, 3) := by decide +kernel
theorem dX3_init_49 : decode cX3_init 49 = .ok (.newarray .long, 2) := by decide +kernel
theorem dX3_init_51 : decode cX3_init 51 = .ok (.putfield 29, 3) := by decide +kernel
theorem dX3_init_54 : decode cX3_init 54 = .ok (.aload_n 0, 1) := by decide +kernel
theorem dX3_init_55 : decode cX3_init 55 = .ok (.iconst 0, 1) := by decide +kernel
theorem dX3_init_56 : decode cX3_init 56 = .ok (.putfield 32, 3) := by decide +kernel
theorem dX3_init_59 : decode cX3_init 59 = .ok (.aload_n 0, 1) := by decide +kernel
theorem dX3_init_60 : decode cX3_init 60 = .ok (.iconst 0, 1) := by decide +kernel
theorem dX3_init_61 : decode cX3_init 61 = .ok (.putfield 36, 3) := by decide +kernel
theorem dX3_init_64 : decode cX3_init 64 = .ok (.aload_n 0, 1) := by decide +kernel
theorem dX3_init_65 : decode cX3_init 65 = .ok (.iconst 0, 1) := by decide +kernel
theorem dX3_init_66 : decode cX3_init 66 = .ok (.putfield 39, 3) := by decide +kernel
theorem dX3_init_69 : decode cX3_init 69 = .ok (.return_, 1) := by decide +kernel
theorem dX3_setExpected_0 : decode cX3_setExpected 0 = .ok (.aload_n 0, 1) := by decide +kernel
theorem dX3_setExpected_1 : decode cX3_setExpected 1 = .ok (.getfield 36, 3) := by decide +kernel
theorem dX3_setExpected_4 : decode cX3_setExpected 4 = .ok (.istore_n 2, 1) := by decide +kernel
theorem dX3_setExpected_5 : decode cX3_setExpected 5 = .ok (.aload_n 0, 1) := by decide +kernel
theorem dX3_setExpected_6 : decode cX3_setExpected 6 = .ok (.iload_n 1, 1) := by decide +kernel
theorem dX3_setExpected_7 : decode cX3_setExpected 7 = .ok (.putfield 36, 3) := by decide +kernel
theorem dX3_setExpected_10 : decode cX3_setExpected 10 = .ok (.iload_n 2, 1) := by decide +kernel
theorem dX3_setExpected_11 : decode cX3_setExpected 11 = .ok (.ireturn, 1) := by decide +kernel
set_option maxRecDepth 20000 in
theorem ggX3_mayTell_X1_has : GoodIn wsX3_mayTell wsX1_has := goodIn_r _ [5, 6, 7, 8] (by decide +kernel) (by decide +kernel)
set_option maxRecDepth 20000 in
theorem gX3_mayTell_X1_has : GoodIn wsX3_mayTell (va_wsS RX3 43 yX1_has wsX1_has) := goodIn_app (goodIn_of _ (by decide +kernel)) ggX3_mayTell_X1_has
set_option maxRecDepth 20000 in
theorem ggX3_mayTell_X1_tests : GoodIn wsX3_mayTell wsX1_tests := goodIn_r _ [11, 12, 13, 4, 14] (by decide +kernel) (by decide +kernel)
set_option maxRecDepth 20000 in
theorem gX3_mayTell_X1_tests : GoodIn wsX3_mayTell (va_wsS RX3 49 yX1_tests wsX1_tests) := goodIn_app (goodIn_of _ (by decide +kernel)) ggX3_mayTell_X1_tests
set_option maxRecDepth 20000 in
theorem ggX3_mayTell_X5_isIn : GoodIn wsX3_mayTell wsX5_isIn := goodIn_r _ [8] (by decide +kernel) (by decide +kernel)
set_option maxRecDepth 20000 in
theorem gX3_mayTell_X5_isIn_n52 : GoodIn wsX3_mayTell (wsX5_isIn) := ggX3_mayTell_X5_isIn
set_option maxRecDepth 20000 in
theorem ggX3_mayTell_X2_bitsOf : GoodIn wsX3_mayTell wsX2_bitsOf := goodIn_r _ [19, 20, 21, 22, 23, 24, 25, 26, 4, 27, 12, 13, 14, 28, 29, 30, 31, 32, 33, 18, 34, 35, 36, 51, 52, 53, 54, 55, 56, 57, 58] (by decide +kernel) (by decide +kernel)
set_option maxRecDepth 20000 in
theorem gX3_mayTell_X2_bitsOf : GoodIn wsX3_mayTell (wsV RX3 56 RX2 yX2_bitsOf wsX2_bitsOf) := goodIn_app (goodIn_of _ (by decide +kernel)) ggX3_mayTell_X2_bitsOf
theorem dX3_mayTell_0 : decode cX3_mayTell 0 = .ok (.iload_n 1, 1) := by decide +kernel
theorem dX3_mayTell_1 : decode cX3_mayTell 1 = .ok (.invokestatic 43, 3) := by decide +kernel
theorem dX3_mayTell_4 : decode cX3_mayTell 4 = .ok (.ifCond .eq 47, 3) := by decide +kernel
theorem dX3_mayTell_7 : decode cX3_mayTell 7 = .ok (.iload_n 1, 1) := by decide +kernel
theorem dX3_mayTell_8 : decode cX3_mayTell 8 = .ok (.invokestatic 49, 3) := by decide +kernel
theorem dX3_mayTell_11 : decode cX3_mayTell 11 = .ok (.iconst 1, 1) := by decide +kernel
theorem dX3_mayTell_12 : decode cX3_mayTell 12 = .ok (.iconst 2, 1) := by decide +kernel
theorem dX3_mayTell_13 : decode cX3_mayTell 13 = .ok (.invokestatic 52, 3) := by decide +kernel
theorem dX3_mayTell_16 : decode cX3_mayTell 16 = .ok (.ifCond .eq 35, 3) := by decide +kernel
theorem dX3_mayTell_19 : decode cX3_mayTell 19 = .ok (.aload_n 0, 1) := by decide +kernel
theorem dX3_mayTell_20 : decode cX3_mayTell 20 = .ok (.getfield 9, 3) := by decide +kernel
theorem dX3_mayTell_23 : decode cX3_mayTell 23 = .ok (.iload_n 1, 1) := by decide +kernel
theorem dX3_mayTell_24 : decode cX3_mayTell 24 = .ok (.iconst 0, 1) := by decide +kernel
theorem dX3_mayTell_25 : decode cX3_mayTell 25 = .ok (.invokevirtual 56, 3) := by decide +kernel
theorem dX3_mayTell_28 : decode cX3_mayTell 28 = .ok (.lconst 0, 1) := by decide +kernel
theorem dX3_mayTell_29 : decode cX3_mayTell 29 = .ok (.lcmp, 1) := by decide +kernel
theorem dX3_mayTell_30 : decode cX3_mayTell 30 = .ok (.ifCond .ne 17, 3) := by decide +kernel
theorem dX3_mayTell_33 : decode cX3_mayTell 33 = .ok (.aload_n 0, 1) := by decide +kernel
theorem dX3_mayTell_34 : decode cX3_mayTell 34 = .ok (.getfield 9, 3) := by decide +kernel
theorem dX3_mayTell_37 : decode cX3_mayTell 37 = .ok (.iload_n 1, 1) := by decide +kernel
theorem dX3_mayTell_38 : decode cX3_mayTell 38 = .ok (.iconst 1, 1) := by decide +kernel
theorem dX3_mayTell_39 : decode cX3_mayTell 39 = .ok (.invokevirtual 56, 3) := by decide +kernel
theorem dX3_mayTell_42 : decode cX3_mayTell 42 = .ok (.lconst 0, 1) := by decide +kernel
theorem dX3_mayTell_43 : decode cX3_mayTell 43 = .ok (.lcmp, 1) := by decide +kernel
theorem dX3_mayTell_44 : decode cX3_mayTell 44 = .ok (.ifCond .eq 7, 3) := by decide +kernel
theorem dX3_mayTell_47 : decode cX3_mayTell 47 = .ok (.iconst 1, 1) := by decide +kernel
theorem dX3_mayTell_48 : decode cX3_mayTell 48 = .ok (.goto 4, 3) := by decide +kernel
theorem dX3_mayTell_51 : decode cX3_mayTell 51 = .ok (.iconst 0, 1) := by decide +kernel
theorem dX3_mayTell_52 : decode cX3_mayTell 52 = .ok (.ireturn, 1) := by decide +kernel
set_option maxRecDepth 20000 in
theorem ggX3_gather_X1_tests : GoodIn wsX3_gather wsX1_tests := goodIn_r _ [11, 12, 13, 10, 14] (by decide +kernel) (by decide +kernel)
set_option maxRecDepth 20000 in
theorem gX3_gather_X1_tests : GoodIn wsX3_gather (va_wsS RX3 49 yX1_tests wsX1_tests) := goodIn_app (goodIn_of _ (by decide +kernel)) ggX3_gather_X1_tests
set_option maxRecDepth 20000 in
theorem ggX3_gather_X2_bitsOf : GoodIn wsX3_gather wsX2_bitsOf := goodIn_r _ [19, 20, 21, 22, 23, 24, 25, 26, 10, 27, 12, 13, 14, 28, 29, 30, 31, 32, 33, 18, 34, 35, 36, 70, 71, 72, 73, 74, 75, 76, 77] (by decide +kernel) (by decide +kernel)
set_option maxRecDepth 20000 in
theorem gX3_gather_X2_bitsOf : GoodIn wsX3_gather (wsV RX3 56 RX2 yX2_bitsOf wsX2_bitsOf) := goodIn_app (goodIn_of _ (by decide +kernel)) ggX3_gather_X2_bitsOf
set_option maxRecDepth 20000 in
theorem ggX3_gather_X2_moved : GoodIn wsX3_gather wsX2_moved := goodIn_r _ [40, 41, 42, 43, 18, 44, 20, 45, 46, 47, 48, 25, 26, 10, 27, 12, 13, 14, 28, 29, 30, 31, 32, 33, 34, 35, 36, 49, 50, 51, 52, 53, 54, 55, 70, 71, 72, 73, 74, 75, 76, 77] (by decide +kernel) (by decide +kernel)
set_option maxRecDepth 20000 in
theorem gX3_gather_X2_moved : GoodIn wsX3_gather (wsV RX3 62 RX2 yX2_moved wsX2_moved) := goodIn_app (goodIn_of _ (by decide +kernel)) ggX3_gather_X2_moved
theorem dX3_gather_0 : decode cX3_gather 0 = .ok (.aload_n 0, 1) := by decide +kernel
theorem dX3_gather_1 : decode cX3_gather 1 = .ok (.iconst 0, 1) := by decide +kernel
theorem dX3_gather_2 : decode cX3_gather 2 = .ok (.putfield 32, 3) := by decide +kernel
theorem dX3_gather_5 : decode cX3_gather 5 = .ok (.iconst 1, 1) := by decide +kernel
theorem dX3_gather_6 : decode cX3_gather 6 = .ok (.istore_n 1, 1) := by decide +kernel
theorem dX3_gather_7 : decode cX3_gather 7 = .ok (.iload_n 1, 1) := by decide +kernel
theorem dX3_gather_8 : decode cX3_gather 8 = .ok (.sipush 729, 3) := by decide +kernel
theorem dX3_gather_11 : decode cX3_gather 11 = .ok (.if_icmp .ge 136, 3) := by decide +kernel
theorem dX3_gather_14 : decode cX3_gather 14 = .ok (.aload_n 0, 1) := by decide +kernel
theorem dX3_gather_15 : decode cX3_gather 15 = .ok (.getfield 32, 3) := by decide +kernel
theorem dX3_gather_18 : decode cX3_gather 18 = .ok (.sipush 216, 3) := by decide +kernel
theorem dX3_gather_21 : decode cX3_gather 21 = .ok (.if_icmp .ge 126, 3) := by decide +kernel
theorem dX3_gather_24 : decode cX3_gather 24 = .ok (.iload_n 1, 1) := by decide +kernel
theorem dX3_gather_25 : decode cX3_gather 25 = .ok (.invokestatic 49, 3) := by decide +kernel
theorem dX3_gather_28 : decode cX3_gather 28 = .ok (.iconst 2, 1) := by decide +kernel
theorem dX3_gather_29 : decode cX3_gather 29 = .ok (.if_icmp .le 6, 3) := by decide +kernel
theorem dX3_gather_32 : decode cX3_gather 32 = .ok (.goto 109, 3) := by decide +kernel
theorem dX3_gather_35 : decode cX3_gather 35 = .ok (.aload_n 0, 1) := by decide +kernel
theorem dX3_gather_36 : decode cX3_gather 36 = .ok (.getfield 9, 3) := by decide +kernel
theorem dX3_gather_39 : decode cX3_gather 39 = .ok (.iload_n 1, 1) := by decide +kernel
theorem dX3_gather_40 : decode cX3_gather 40 = .ok (.iconst 0, 1) := by decide +kernel
theorem dX3_gather_41 : decode cX3_gather 41 = .ok (.invokevirtual 56, 3) := by decide +kernel
theorem dX3_gather_44 : decode cX3_gather 44 = .ok (.lstore_n 2, 1) := by decide +kernel
theorem dX3_gather_45 : decode cX3_gather 45 = .ok (.aload_n 0, 1) := by decide +kernel
theorem dX3_gather_46 : decode cX3_gather 46 = .ok (.getfield 9, 3) := by decide +kernel
theorem dX3_gather_49 : decode cX3_gather 49 = .ok (.iload_n 1, 1) := by decide +kernel
theorem dX3_gather_50 : decode cX3_gather 50 = .ok (.iconst 1, 1) := by decide +kernel
theorem dX3_gather_51 : decode cX3_gather 51 = .ok (.invokevirtual 56, 3) := by decide +kernel
theorem dX3_gather_54 : decode cX3_gather 54 = .ok (.lstore 4, 2) := by decide +kernel
theorem dX3_gather_56 : decode cX3_gather 56 = .ok (.lload_n 2, 1) := by decide +kernel
theorem dX3_gather_57 : decode cX3_gather 57 = .ok (.lconst 0, 1) := by decide +kernel
theorem dX3_gather_58 : decode cX3_gather 58 = .ok (.lcmp, 1) := by decide +kernel
theorem dX3_gather_59 : decode cX3_gather 59 = .ok (.ifCond .ne 10, 3) := by decide +kernel
theorem dX3_gather_62 : decode cX3_gather 62 = .ok (.lload 4, 2) := by decide +kernel
theorem dX3_gather_64 : decode cX3_gather 64 = .ok (.lconst 0, 1) := by decide +kernel
theorem dX3_gather_65 : decode cX3_gather 65 = .ok (.lcmp, 1) := by decide +kernel
theorem dX3_gather_66 : decode cX3_gather 66 = .ok (.ifCond .eq 75, 3) := by decide +kernel
theorem dX3_gather_69 : decode cX3_gather 69 = .ok (.aload_n 0, 1) := by decide +kernel
theorem dX3_gather_70 : decode cX3_gather 70 = .ok (.getfield 15, 3) := by decide +kernel
theorem dX3_gather_73 : decode cX3_gather 73 = .ok (.aload_n 0, 1) := by decide +kernel
theorem dX3_gather_74 : decode cX3_gather 74 = .ok (.getfield 32, 3) := by decide +kernel
theorem dX3_gather_77 : decode cX3_gather 77 = .ok (.iload_n 1, 1) := by decide +kernel
theorem dX3_gather_78 : decode cX3_gather 78 = .ok (.iastore, 1) := by decide +kernel
theorem dX3_gather_79 : decode cX3_gather 79 = .ok (.aload_n 0, 1) := by decide +kernel
theorem dX3_gather_80 : decode cX3_gather 80 = .ok (.getfield 19, 3) := by decide +kernel
theorem dX3_gather_83 : decode cX3_gather 83 = .ok (.aload_n 0, 1) := by decide +kernel
theorem dX3_gather_84 : decode cX3_gather 84 = .ok (.getfield 32, 3) := by decide +kernel
theorem dX3_gather_87 : decode cX3_gather 87 = .ok (.aload_n 0, 1) := by decide +kernel
theorem dX3_gather_88 : decode cX3_gather 88 = .ok (.getfield 9, 3) := by decide +kernel
theorem dX3_gather_91 : decode cX3_gather 91 = .ok (.iload_n 1, 1) := by decide +kernel
theorem dX3_gather_92 : decode cX3_gather 92 = .ok (.iconst 0, 1) := by decide +kernel
theorem dX3_gather_93 : decode cX3_gather 93 = .ok (.invokevirtual 62, 3) := by decide +kernel
theorem dX3_gather_96 : decode cX3_gather 96 = .ok (.iastore, 1) := by decide +kernel
theorem dX3_gather_97 : decode cX3_gather 97 = .ok (.aload_n 0, 1) := by decide +kernel
theorem dX3_gather_98 : decode cX3_gather 98 = .ok (.getfield 22, 3) := by decide +kernel
theorem dX3_gather_101 : decode cX3_gather 101 = .ok (.aload_n 0, 1) := by decide +kernel
theorem dX3_gather_102 : decode cX3_gather 102 = .ok (.getfield 32, 3) := by decide +kernel
theorem dX3_gather_105 : decode cX3_gather 105 = .ok (.iload_n 1, 1) := by decide +kernel
theorem dX3_gather_106 : decode cX3_gather 106 = .ok (.invokestatic 49, 3) := by decide +kernel
theorem dX3_gather_109 : decode cX3_gather 109 = .ok (.iastore, 1) := by decide +kernel
theorem dX3_gather_110 : decode cX3_gather 110 = .ok (.aload_n 0, 1) := by decide +kernel
theorem dX3_gather_111 : decode cX3_gather 111 = .ok (.getfield 25, 3) := by decide +kernel
theorem dX3_gather_114 : decode cX3_gather 114 = .ok (.aload_n 0, 1) := by decide +kernel
theorem dX3_gather_115 : decode cX3_gather 115 = .ok (.getfield 32, 3) := by decide +kernel
theorem dX3_gather_118 : decode cX3_gather 118 = .ok (.lload_n 2, 1) := by decide +kernel
theorem dX3_gather_119 : decode cX3_gather 119 = .ok (.lastore, 1) := by decide +kernel
theorem dX3_gather_120 : decode cX3_gather 120 = .ok (.aload_n 0, 1) := by decide +kernel
theorem dX3_gather_121 : decode cX3_gather 121 = .ok (.getfield 29, 3) := by decide +kernel
theorem dX3_gather_124 : decode cX3_gather 124 = .ok (.aload_n 0, 1) := by decide +kernel
theorem dX3_gather_125 : decode cX3_gather 125 = .ok (.getfield 32, 3) := by decide +kernel
theorem dX3_gather_128 : decode cX3_gather 128 = .ok (.lload 4, 2) := by decide +kernel
theorem dX3_gather_130 : decode cX3_gather 130 = .ok (.lastore, 1) := by decide +kernel
theorem dX3_gather_131 : decode cX3_gather 131 = .ok (.aload_n 0, 1) := by decide +kernel
theorem dX3_gather_132 : decode cX3_gather 132 = .ok (.dup, 1) := by decide +kernel
theorem dX3_gather_133 : decode cX3_gather 133 = .ok (.getfield 32, 3) := by decide +kernel
theorem dX3_gather_136 : decode cX3_gather 136 = .ok (.iconst 1, 1) := by decide +kernel
theorem dX3_gather_137 : decode cX3_gather 137 = .ok (.iadd, 1) := by decide +kernel
theorem dX3_gather_138 : decode cX3_gather 138 = .ok (.putfield 32, 3) := by decide +kernel
theorem dX3_gather_141 : decode cX3_gather 141 = .ok (.iinc 1 1, 3) := by decide +kernel
theorem dX3_gather_144 : decode cX3_gather 144 = .ok (.goto (-137), 3) := by decide +kernel
theorem dX3_gather_147 : decode cX3_gather 147 = .ok (.aload_n 0, 1) := by decide +kernel
theorem dX3_gather_148 : decode cX3_gather 148 = .ok (.getfield 32, 3) := by decide +kernel
theorem dX3_gather_151 : decode cX3_gather 151 = .ok (.ireturn, 1) := by decide +kernel
set_option maxRecDepth 20000 in
theorem ggX3_left_X2_moved : GoodIn wsX3_left wsX2_moved := goodIn_r _ [7, 8, 9, 10, 6, 11, 12, 13, 14, 15, 16, 17, 18, 19, 20, 21, 22, 23, 24, 25, 26, 27, 28, 29, 30, 31, 32, 33, 34, 35, 36, 37, 38, 39, 54, 55, 56, 57, 58, 59, 60, 61] (by decide +kernel) (by decide +kernel)
set_option maxRecDepth 20000 in
theorem gX3_left_X2_moved : GoodIn wsX3_left (wsV RX3 62 RX2 yX2_moved wsX2_moved) := goodIn_app (goodIn_of _ (by decide +kernel)) ggX3_left_X2_moved
theorem dX3_left_0 : decode cX3_left 0 = .ok (.aload_n 0, 1) := by decide +kernel
theorem dX3_left_1 : decode cX3_left 1 = .ok (.getfield 9, 3) := by decide +kernel
theorem dX3_left_4 : decode cX3_left 4 = .ok (.iconst 0, 1) := by decide +kernel
theorem dX3_left_5 : decode cX3_left 5 = .ok (.iconst 0, 1) := by decide +kernel
theorem dX3_left_6 : decode cX3_left 6 = .ok (.invokevirtual 62, 3) := by decide +kernel
theorem dX3_left_9 : decode cX3_left 9 = .ok (.aload_n 0, 1) := by decide +kernel
theorem dX3_left_10 : decode cX3_left 10 = .ok (.getfield 36, 3) := by decide +kernel
theorem dX3_left_13 : decode cX3_left 13 = .ok (.isub, 1) := by decide +kernel
theorem dX3_left_14 : decode cX3_left 14 = .ok (.ireturn, 1) := by decide +kernel
set_option maxRecDepth 20000 in
theorem ggX3_tollOf_X3_left : GoodIn wsX3_tollOf wsX3_left := goodIn_r _ [9, 10, 11, 12, 13, 14, 15, 16, 17, 18, 19, 20, 21, 22, 23, 24, 25, 26, 27, 28, 29, 30, 31, 32, 33, 34, 35, 36, 37, 38, 39, 40, 41, 42, 43, 44, 45, 46, 47, 48, 49, 50, 51, 52, 53, 54, 55, 56, 57, 58, 59, 60, 61, 62, 63, 64, 65, 66, 67, 68, 69, 70] (by decide +kernel) (by decide +kernel)
set_option maxRecDepth 20000 in
theorem gX3_tollOf_X3_left : GoodIn wsX3_tollOf (wsV RX3 66 RX3 yX3_left wsX3_left) := goodIn_app (goodIn_of _ (by decide +kernel)) ggX3_tollOf_X3_left
theorem dX3_tollOf_0 : decode cX3_tollOf 0 = .ok (.aload_n 0, 1) := by decide +kernel
theorem dX3_tollOf_1 : decode cX3_tollOf 1 = .ok (.invokevirtual 66, 3) := by decide +kernel
theorem dX3_tollOf_4 : decode cX3_tollOf 4 = .ok (.iload_n 1, 1) := by decide +kernel
theorem dX3_tollOf_5 : decode cX3_tollOf 5 = .ok (.isub, 1) := by decide +kernel
theorem dX3_tollOf_6 : decode cX3_tollOf 6 = .ok (.invokestatic 70, 3) := by decide +kernel
theorem dX3_tollOf_9 : decode cX3_tollOf 9 = .ok (.iload_n 2, 1) := by decide +kernel
theorem dX3_tollOf_10 : decode cX3_tollOf 10 = .ok (.iadd, 1) := by decide +kernel
theorem dX3_tollOf_11 : decode cX3_tollOf 11 = .ok (.ireturn, 1) := by decide +kernel
set_option maxRecDepth 20000 in
theorem ggX3_findBest_X3_left : GoodIn wsX3_findBest wsX3_left := goodIn_r _ [11, 12, 13, 14, 15, 16, 17, 18, 19, 20, 21, 22, 23, 24, 25, 26, 27, 28, 29, 30, 31, 32, 33, 34, 35, 36, 37, 38, 39, 40, 41, 42, 43, 44, 45, 46, 47, 48, 49, 50, 91, 92, 93, 94, 95, 96, 97, 98, 99, 100, 101, 102, 103, 104, 105, 106, 107, 108, 109, 110, 111, 112] (by decide +kernel) (by decide +kernel)
set_option maxRecDepth 20000 in
theorem gX3_findBest_X3_left : GoodIn wsX3_findBest (wsV RX3 66 RX3 yX3_left wsX3_left) := goodIn_app (goodIn_of _ (by decide +kernel)) ggX3_findBest_X3_left
set_option maxRecDepth 20000 in
theorem ggX3_findBest_X3_gather : GoodIn wsX3_findBest wsX3_gather := goodIn_r _ [54, 55, 12, 56, 57, 58, 59, 60, 61, 62, 30, 63, 32, 33, 34, 64, 65, 66, 17, 67, 23, 68, 69, 3, 70, 28, 29, 31, 35, 36, 37, 38, 39, 40, 41, 42, 43, 14, 15, 16, 18, 19, 20, 21, 22, 24, 25, 26, 27, 44, 45, 46, 47, 48, 49, 50, 91, 92, 93, 94, 95, 96, 97, 98, 99, 100, 101, 102, 103, 104, 105, 106, 107, 108, 109, 110, 111, 112] (by decide +kernel) (by decide +kernel)
set_option maxRecDepth 20000 in
theorem gX3_findBest_X3_gather : GoodIn wsX3_findBest (wsV RX3 75 RX3 yX3_gather wsX3_gather) := goodIn_app (goodIn_of _ (by decide +kernel)) ggX3_findBest_X3_gather
set_option maxRecDepth 20000 in
theorem ggX3_findBest_X3_keep : GoodIn wsX3_findBest wsX3_keep := goodIn_r _ [74, 75, 76, 77, 78, 6, 91, 92, 93, 94, 95, 96, 97, 98, 99, 100, 101, 102, 103, 104] (by decide +kernel) (by decide +kernel)
set_option maxRecDepth 20000 in
theorem gX3_findBest_X3_keep : GoodIn wsX3_findBest (wsV RX3 78 RX3 yX3_keep wsX3_keep) := goodIn_app (goodIn_of _ (by decide +kernel)) ggX3_findBest_X3_keep
set_option maxRecDepth 20000 in
theorem ggX3_findBest_X3_offerOnes : GoodIn wsX3_findBest wsX3_offerOnes := goodIn_r _ [82, 55, 57, 1, 2, 3, 4, 58, 6, 56, 71, 72, 73, 10, 74, 75, 76, 77, 78, 91, 92, 93, 94, 95, 96, 97, 98, 99, 100, 101, 102, 103, 104] (by decide +kernel) (by decide +kernel)
set_option maxRecDepth 20000 in
theorem gX3_findBest_X3_offerOnes : GoodIn wsX3_findBest (wsV RX3 82 RX3 yX3_offerOnes wsX3_offerOnes) := goodIn_app (goodIn_of _ (by decide +kernel)) ggX3_findBest_X3_offerOnes
set_option maxRecDepth 20000 in
theorem ggX3_findBest_X3_offerTwos : GoodIn wsX3_findBest wsX3_offerTwos := goodIn_r _ [86, 55, 57, 1, 2, 3, 4, 58, 6, 56, 87, 88, 89, 10, 90, 59, 60, 71, 72, 73, 74, 75, 76, 77, 78, 91, 92, 93, 94, 95, 96, 97, 98, 99, 100, 101, 102, 103, 104] (by decide +kernel) (by decide +kernel)
set_option maxRecDepth 20000 in
theorem gX3_findBest_X3_offerTwos : GoodIn wsX3_findBest (wsV RX3 86 RX3 yX3_offerTwos wsX3_offerTwos) := goodIn_app (goodIn_of _ (by decide +kernel)) ggX3_findBest_X3_offerTwos
theorem dX3_findBest_0 : decode cX3_findBest 0 = .ok (.aload_n 0, 1) := by decide +kernel
theorem dX3_findBest_1 : decode cX3_findBest 1 = .ok (.invokevirtual 66, 3) := by decide +kernel
theorem dX3_findBest_4 : decode cX3_findBest 4 = .ok (.istore_n 3, 1) := by decide +kernel
theorem dX3_findBest_5 : decode cX3_findBest 5 = .ok (.aload_n 0, 1) := by decide +kernel
theorem dX3_findBest_6 : decode cX3_findBest 6 = .ok (.invokevirtual 75, 3) := by decide +kernel
theorem dX3_findBest_9 : decode cX3_findBest 9 = .ok (.pop, 1) := by decide +kernel
theorem dX3_findBest_10 : decode cX3_findBest 10 = .ok (.aload_n 0, 1) := by decide +kernel
theorem dX3_findBest_11 : decode cX3_findBest 11 = .ok (.iconst 0, 1) := by decide +kernel
theorem dX3_findBest_12 : decode cX3_findBest 12 = .ok (.iconst (-1), 1) := by decide +kernel
theorem dX3_findBest_13 : decode cX3_findBest 13 = .ok (.iconst (-1), 1) := by decide +kernel
theorem dX3_findBest_14 : decode cX3_findBest 14 = .ok (.iload_n 3, 1) := by decide +kernel
theorem dX3_findBest_15 : decode cX3_findBest 15 = .ok (.iload_n 3, 1) := by decide +kernel
theorem dX3_findBest_16 : decode cX3_findBest 16 = .ok (.invokestatic 70, 3) := by decide +kernel
theorem dX3_findBest_19 : decode cX3_findBest 19 = .ok (.invokevirtual 78, 3) := by decide +kernel
theorem dX3_findBest_22 : decode cX3_findBest 22 = .ok (.iload_n 2, 1) := by decide +kernel
theorem dX3_findBest_23 : decode cX3_findBest 23 = .ok (.iconst 1, 1) := by decide +kernel
theorem dX3_findBest_24 : decode cX3_findBest 24 = .ok (.if_icmp .lt 9, 3) := by decide +kernel
theorem dX3_findBest_27 : decode cX3_findBest 27 = .ok (.aload_n 0, 1) := by decide +kernel
theorem dX3_findBest_28 : decode cX3_findBest 28 = .ok (.iload_n 1, 1) := by decide +kernel
theorem dX3_findBest_29 : decode cX3_findBest 29 = .ok (.iload_n 3, 1) := by decide +kernel
theorem dX3_findBest_30 : decode cX3_findBest 30 = .ok (.invokevirtual 82, 3) := by decide +kernel
theorem dX3_findBest_33 : decode cX3_findBest 33 = .ok (.iload_n 2, 1) := by decide +kernel
theorem dX3_findBest_34 : decode cX3_findBest 34 = .ok (.iconst 2, 1) := by decide +kernel
theorem dX3_findBest_35 : decode cX3_findBest 35 = .ok (.if_icmp .lt 9, 3) := by decide +kernel
theorem dX3_findBest_38 : decode cX3_findBest 38 = .ok (.aload_n 0, 1) := by decide +kernel
theorem dX3_findBest_39 : decode cX3_findBest 39 = .ok (.iload_n 1, 1) := by decide +kernel
theorem dX3_findBest_40 : decode cX3_findBest 40 = .ok (.iload_n 3, 1) := by decide +kernel
theorem dX3_findBest_41 : decode cX3_findBest 41 = .ok (.invokevirtual 86, 3) := by decide +kernel
theorem dX3_findBest_44 : decode cX3_findBest 44 = .ok (.aload_n 0, 1) := by decide +kernel
theorem dX3_findBest_45 : decode cX3_findBest 45 = .ok (.iconst 1, 1) := by decide +kernel
theorem dX3_findBest_46 : decode cX3_findBest 46 = .ok (.putfield 39, 3) := by decide +kernel
theorem dX3_findBest_49 : decode cX3_findBest 49 = .ok (.aload_n 0, 1) := by decide +kernel
theorem dX3_findBest_50 : decode cX3_findBest 50 = .ok (.getfield 89, 3) := by decide +kernel
theorem dX3_findBest_53 : decode cX3_findBest 53 = .ok (.ireturn, 1) := by decide +kernel
set_option maxRecDepth 20000 in
theorem ggX3_offerOnes_X3_keep : GoodIn wsX3_offerOnes wsX3_keep := goodIn_r _ [14, 15, 16, 17, 18, 8, 19, 20, 21, 22, 23, 24, 25, 26, 27, 28, 29, 30, 31, 32] (by decide +kernel) (by decide +kernel)
set_option maxRecDepth 20000 in
theorem gX3_offerOnes_X3_keep : GoodIn wsX3_offerOnes (wsV RX3 78 RX3 yX3_keep wsX3_keep) := goodIn_app (goodIn_of _ (by decide +kernel)) ggX3_offerOnes_X3_keep
theorem dX3_offerOnes_0 : decode cX3_offerOnes 0 = .ok (.iconst 0, 1) := by decide +kernel
theorem dX3_offerOnes_1 : decode cX3_offerOnes 1 = .ok (.istore_n 3, 1) := by decide +kernel
theorem dX3_offerOnes_2 : decode cX3_offerOnes 2 = .ok (.iload_n 3, 1) := by decide +kernel
theorem dX3_offerOnes_3 : decode cX3_offerOnes 3 = .ok (.aload_n 0, 1) := by decide +kernel
theorem dX3_offerOnes_4 : decode cX3_offerOnes 4 = .ok (.getfield 32, 3) := by decide +kernel
theorem dX3_offerOnes_7 : decode cX3_offerOnes 7 = .ok (.if_icmp .ge 60, 3) := by decide +kernel
theorem dX3_offerOnes_10 : decode cX3_offerOnes 10 = .ok (.iload_n 2, 1) := by decide +kernel
theorem dX3_offerOnes_11 : decode cX3_offerOnes 11 = .ok (.aload_n 0, 1) := by decide +kernel
theorem dX3_offerOnes_12 : decode cX3_offerOnes 12 = .ok (.getfield 19, 3) := by decide +kernel
theorem dX3_offerOnes_15 : decode cX3_offerOnes 15 = .ok (.iload_n 3, 1) := by decide +kernel
theorem dX3_offerOnes_16 : decode cX3_offerOnes 16 = .ok (.iaload, 1) := by decide +kernel
theorem dX3_offerOnes_17 : decode cX3_offerOnes 17 = .ok (.isub, 1) := by decide +kernel
theorem dX3_offerOnes_18 : decode cX3_offerOnes 18 = .ok (.istore 4, 2) := by decide +kernel
theorem dX3_offerOnes_20 : decode cX3_offerOnes 20 = .ok (.iload 4, 2) := by decide +kernel
theorem dX3_offerOnes_22 : decode cX3_offerOnes 22 = .ok (.invokestatic 70, 3) := by decide +kernel
theorem dX3_offerOnes_25 : decode cX3_offerOnes 25 = .ok (.iload_n 1, 1) := by decide +kernel
theorem dX3_offerOnes_26 : decode cX3_offerOnes 26 = .ok (.aload_n 0, 1) := by decide +kernel
theorem dX3_offerOnes_27 : decode cX3_offerOnes 27 = .ok (.getfield 22, 3) := by decide +kernel
theorem dX3_offerOnes_30 : decode cX3_offerOnes 30 = .ok (.iload_n 3, 1) := by decide +kernel
theorem dX3_offerOnes_31 : decode cX3_offerOnes 31 = .ok (.iaload, 1) := by decide +kernel
theorem dX3_offerOnes_32 : decode cX3_offerOnes 32 = .ok (.imul, 1) := by decide +kernel
theorem dX3_offerOnes_33 : decode cX3_offerOnes 33 = .ok (.iadd, 1) := by decide +kernel
theorem dX3_offerOnes_34 : decode cX3_offerOnes 34 = .ok (.istore 5, 2) := by decide +kernel
theorem dX3_offerOnes_36 : decode cX3_offerOnes 36 = .ok (.iload 5, 2) := by decide +kernel
theorem dX3_offerOnes_38 : decode cX3_offerOnes 38 = .ok (.aload_n 0, 1) := by decide +kernel
theorem dX3_offerOnes_39 : decode cX3_offerOnes 39 = .ok (.getfield 89, 3) := by decide +kernel
theorem dX3_offerOnes_42 : decode cX3_offerOnes 42 = .ok (.if_icmp .ge 19, 3) := by decide +kernel
theorem dX3_offerOnes_45 : decode cX3_offerOnes 45 = .ok (.aload_n 0, 1) := by decide +kernel
theorem dX3_offerOnes_46 : decode cX3_offerOnes 46 = .ok (.iconst 1, 1) := by decide +kernel
theorem dX3_offerOnes_47 : decode cX3_offerOnes 47 = .ok (.aload_n 0, 1) := by decide +kernel
theorem dX3_offerOnes_48 : decode cX3_offerOnes 48 = .ok (.getfield 15, 3) := by decide +kernel
theorem dX3_offerOnes_51 : decode cX3_offerOnes 51 = .ok (.iload_n 3, 1) := by decide +kernel
theorem dX3_offerOnes_52 : decode cX3_offerOnes 52 = .ok (.iaload, 1) := by decide +kernel
theorem dX3_offerOnes_53 : decode cX3_offerOnes 53 = .ok (.iconst (-1), 1) := by decide +kernel
theorem dX3_offerOnes_54 : decode cX3_offerOnes 54 = .ok (.iload 4, 2) := by decide +kernel
theorem dX3_offerOnes_56 : decode cX3_offerOnes 56 = .ok (.iload 5, 2) := by decide +kernel
theorem dX3_offerOnes_58 : decode cX3_offerOnes 58 = .ok (.invokevirtual 78, 3) := by decide +kernel
theorem dX3_offerOnes_61 : decode cX3_offerOnes 61 = .ok (.iinc 3 1, 3) := by decide +kernel
theorem dX3_offerOnes_64 : decode cX3_offerOnes 64 = .ok (.goto (-62), 3) := by decide +kernel
theorem dX3_offerOnes_67 : decode cX3_offerOnes 67 = .ok (.return_, 1) := by decide +kernel
set_option maxRecDepth 20000 in
theorem ggX3_offerTwos_X3_areApart : GoodIn wsX3_offerTwos wsX3_areApart := goodIn_r _ [14, 15, 16, 25, 26, 27, 28, 29, 30, 31, 32, 33, 34, 35, 36, 37, 38] (by decide +kernel) (by decide +kernel)
set_option maxRecDepth 20000 in
theorem gX3_offerTwos_X3_areApart : GoodIn wsX3_offerTwos (wsV RX3 92 RX3 yX3_areApart wsX3_areApart) := goodIn_app (goodIn_of _ (by decide +kernel)) ggX3_offerTwos_X3_areApart
set_option maxRecDepth 20000 in
theorem ggX3_offerTwos_X3_keep : GoodIn wsX3_offerTwos wsX3_keep := goodIn_r _ [20, 21, 22, 23, 24, 8, 25, 26, 27, 28, 29, 30, 31, 32, 33, 34, 35, 36, 37, 38] (by decide +kernel) (by decide +kernel)
set_option maxRecDepth 20000 in
theorem gX3_offerTwos_X3_keep : GoodIn wsX3_offerTwos (wsV RX3 78 RX3 yX3_keep wsX3_keep) := goodIn_app (goodIn_of _ (by decide +kernel)) ggX3_offerTwos_X3_keep
theorem dX3_offerTwos_0 : decode cX3_offerTwos 0 = .ok (.iconst 0, 1) := by decide +kernel
theorem dX3_offerTwos_1 : decode cX3_offerTwos 1 = .ok (.istore_n 3, 1) := by decide +kernel
theorem dX3_offerTwos_2 : decode cX3_offerTwos 2 = .ok (.iload_n 3, 1) := by decide +kernel
theorem dX3_offerTwos_3 : decode cX3_offerTwos 3 = .ok (.aload_n 0, 1) := by decide +kernel
theorem dX3_offerTwos_4 : decode cX3_offerTwos 4 = .ok (.getfield 32, 3) := by decide +kernel
theorem dX3_offerTwos_7 : decode cX3_offerTwos 7 = .ok (.if_icmp .ge 112, 3) := by decide +kernel
theorem dX3_offerTwos_10 : decode cX3_offerTwos 10 = .ok (.iload_n 3, 1) := by decide +kernel
theorem dX3_offerTwos_11 : decode cX3_offerTwos 11 = .ok (.iconst 1, 1) := by decide +kernel
theorem dX3_offerTwos_12 : decode cX3_offerTwos 12 = .ok (.iadd, 1) := by decide +kernel
theorem dX3_offerTwos_13 : decode cX3_offerTwos 13 = .ok (.istore 4, 2) := by decide +kernel
theorem dX3_offerTwos_15 : decode cX3_offerTwos 15 = .ok (.iload 4, 2) := by decide +kernel
theorem dX3_offerTwos_17 : decode cX3_offerTwos 17 = .ok (.aload_n 0, 1) := by decide +kernel
theorem dX3_offerTwos_18 : decode cX3_offerTwos 18 = .ok (.getfield 32, 3) := by decide +kernel
theorem dX3_offerTwos_21 : decode cX3_offerTwos 21 = .ok (.if_icmp .ge 92, 3) := by decide +kernel
theorem dX3_offerTwos_24 : decode cX3_offerTwos 24 = .ok (.iload_n 2, 1) := by decide +kernel
theorem dX3_offerTwos_25 : decode cX3_offerTwos 25 = .ok (.aload_n 0, 1) := by decide +kernel
theorem dX3_offerTwos_26 : decode cX3_offerTwos 26 = .ok (.getfield 19, 3) := by decide +kernel
theorem dX3_offerTwos_29 : decode cX3_offerTwos 29 = .ok (.iload_n 3, 1) := by decide +kernel
theorem dX3_offerTwos_30 : decode cX3_offerTwos 30 = .ok (.iaload, 1) := by decide +kernel
theorem dX3_offerTwos_31 : decode cX3_offerTwos 31 = .ok (.isub, 1) := by decide +kernel
theorem dX3_offerTwos_32 : decode cX3_offerTwos 32 = .ok (.aload_n 0, 1) := by decide +kernel
theorem dX3_offerTwos_33 : decode cX3_offerTwos 33 = .ok (.getfield 19, 3) := by decide +kernel
theorem dX3_offerTwos_36 : decode cX3_offerTwos 36 = .ok (.iload 4, 2) := by decide +kernel
theorem dX3_offerTwos_38 : decode cX3_offerTwos 38 = .ok (.iaload, 1) := by decide +kernel
theorem dX3_offerTwos_39 : decode cX3_offerTwos 39 = .ok (.isub, 1) := by decide +kernel
theorem dX3_offerTwos_40 : decode cX3_offerTwos 40 = .ok (.istore 5, 2) := by decide +kernel
theorem dX3_offerTwos_42 : decode cX3_offerTwos 42 = .ok (.iload 5, 2) := by decide +kernel
theorem dX3_offerTwos_44 : decode cX3_offerTwos 44 = .ok (.invokestatic 70, 3) := by decide +kernel
theorem dX3_offerTwos_47 : decode cX3_offerTwos 47 = .ok (.iload_n 1, 1) := by decide +kernel
theorem dX3_offerTwos_48 : decode cX3_offerTwos 48 = .ok (.aload_n 0, 1) := by decide +kernel
theorem dX3_offerTwos_49 : decode cX3_offerTwos 49 = .ok (.getfield 22, 3) := by decide +kernel
theorem dX3_offerTwos_52 : decode cX3_offerTwos 52 = .ok (.iload_n 3, 1) := by decide +kernel
theorem dX3_offerTwos_53 : decode cX3_offerTwos 53 = .ok (.iaload, 1) := by decide +kernel
theorem dX3_offerTwos_54 : decode cX3_offerTwos 54 = .ok (.aload_n 0, 1) := by decide +kernel
theorem dX3_offerTwos_55 : decode cX3_offerTwos 55 = .ok (.getfield 22, 3) := by decide +kernel
theorem dX3_offerTwos_58 : decode cX3_offerTwos 58 = .ok (.iload 4, 2) := by decide +kernel
theorem dX3_offerTwos_60 : decode cX3_offerTwos 60 = .ok (.iaload, 1) := by decide +kernel
theorem dX3_offerTwos_61 : decode cX3_offerTwos 61 = .ok (.iadd, 1) := by decide +kernel
theorem dX3_offerTwos_62 : decode cX3_offerTwos 62 = .ok (.imul, 1) := by decide +kernel
theorem dX3_offerTwos_63 : decode cX3_offerTwos 63 = .ok (.iadd, 1) := by decide +kernel
theorem dX3_offerTwos_64 : decode cX3_offerTwos 64 = .ok (.istore 6, 2) := by decide +kernel
theorem dX3_offerTwos_66 : decode cX3_offerTwos 66 = .ok (.iload 6, 2) := by decide +kernel
theorem dX3_offerTwos_68 : decode cX3_offerTwos 68 = .ok (.aload_n 0, 1) := by decide +kernel
theorem dX3_offerTwos_69 : decode cX3_offerTwos 69 = .ok (.getfield 89, 3) := by decide +kernel
theorem dX3_offerTwos_72 : decode cX3_offerTwos 72 = .ok (.if_icmp .ge 35, 3) := by decide +kernel
theorem dX3_offerTwos_75 : decode cX3_offerTwos 75 = .ok (.aload_n 0, 1) := by decide +kernel
theorem dX3_offerTwos_76 : decode cX3_offerTwos 76 = .ok (.iload_n 3, 1) := by decide +kernel
theorem dX3_offerTwos_77 : decode cX3_offerTwos 77 = .ok (.iload 4, 2) := by decide +kernel
theorem dX3_offerTwos_79 : decode cX3_offerTwos 79 = .ok (.invokevirtual 92, 3) := by decide +kernel
theorem dX3_offerTwos_82 : decode cX3_offerTwos 82 = .ok (.ifCond .eq 25, 3) := by decide +kernel
theorem dX3_offerTwos_85 : decode cX3_offerTwos 85 = .ok (.aload_n 0, 1) := by decide +kernel
theorem dX3_offerTwos_86 : decode cX3_offerTwos 86 = .ok (.iconst 2, 1) := by decide +kernel
theorem dX3_offerTwos_87 : decode cX3_offerTwos 87 = .ok (.aload_n 0, 1) := by decide +kernel
theorem dX3_offerTwos_88 : decode cX3_offerTwos 88 = .ok (.getfield 15, 3) := by decide +kernel
theorem dX3_offerTwos_91 : decode cX3_offerTwos 91 = .ok (.iload_n 3, 1) := by decide +kernel
theorem dX3_offerTwos_92 : decode cX3_offerTwos 92 = .ok (.iaload, 1) := by decide +kernel
theorem dX3_offerTwos_93 : decode cX3_offerTwos 93 = .ok (.aload_n 0, 1) := by decide +kernel
theorem dX3_offerTwos_94 : decode cX3_offerTwos 94 = .ok (.getfield 15, 3) := by decide +kernel
theorem dX3_offerTwos_97 : decode cX3_offerTwos 97 = .ok (.iload 4, 2) := by decide +kernel
theorem dX3_offerTwos_99 : decode cX3_offerTwos 99 = .ok (.iaload, 1) := by decide +kernel
theorem dX3_offerTwos_100 : decode cX3_offerTwos 100 = .ok (.iload 5, 2) := by decide +kernel
theorem dX3_offerTwos_102 : decode cX3_offerTwos 102 = .ok (.iload 6, 2) := by decide +kernel
theorem dX3_offerTwos_104 : decode cX3_offerTwos 104 = .ok (.invokevirtual 78, 3) := by decide +kernel
theorem dX3_offerTwos_107 : decode cX3_offerTwos 107 = .ok (.iinc 4 1, 3) := by decide +kernel
theorem dX3_offerTwos_110 : decode cX3_offerTwos 110 = .ok (.goto (-95), 3) := by decide +kernel
theorem dX3_offerTwos_113 : decode cX3_offerTwos 113 = .ok (.iinc 3 1, 3) := by decide +kernel
theorem dX3_offerTwos_116 : decode cX3_offerTwos 116 = .ok (.goto (-114), 3) := by decide +kernel
theorem dX3_offerTwos_119 : decode cX3_offerTwos 119 = .ok (.return_, 1) := by decide +kernel
theorem dX3_areApart_0 : decode cX3_areApart 0 = .ok (.aload_n 0, 1) := by decide +kernel
theorem dX3_areApart_1 : decode cX3_areApart 1 = .ok (.getfield 25, 3) := by decide +kernel
theorem dX3_areApart_4 : decode cX3_areApart 4 = .ok (.iload_n 1, 1) := by decide +kernel
theorem dX3_areApart_5 : decode cX3_areApart 5 = .ok (.laload, 1) := by decide +kernel
theorem dX3_areApart_6 : decode cX3_areApart 6 = .ok (.aload_n 0, 1) := by decide +kernel
theorem dX3_areApart_7 : decode cX3_areApart 7 = .ok (.getfield 25, 3) := by decide +kernel
theorem dX3_areApart_10 : decode cX3_areApart 10 = .ok (.iload_n 2, 1) := by decide +kernel
theorem dX3_areApart_11 : decode cX3_areApart 11 = .ok (.laload, 1) := by decide +kernel
theorem dX3_areApart_12 : decode cX3_areApart 12 = .ok (.land, 1) := by decide +kernel
theorem dX3_areApart_13 : decode cX3_areApart 13 = .ok (.lconst 0, 1) := by decide +kernel
theorem dX3_areApart_14 : decode cX3_areApart 14 = .ok (.lcmp, 1) := by decide +kernel
theorem dX3_areApart_15 : decode cX3_areApart 15 = .ok (.ifCond .ne 25, 3) := by decide +kernel
theorem dX3_areApart_18 : decode cX3_areApart 18 = .ok (.aload_n 0, 1) := by decide +kernel
theorem dX3_areApart_19 : decode cX3_areApart 19 = .ok (.getfield 29, 3) := by decide +kernel
theorem dX3_areApart_22 : decode cX3_areApart 22 = .ok (.iload_n 1, 1) := by decide +kernel
theorem dX3_areApart_23 : decode cX3_areApart 23 = .ok (.laload, 1) := by decide +kernel
theorem dX3_areApart_24 : decode cX3_areApart 24 = .ok (.aload_n 0, 1) := by decide +kernel
theorem dX3_areApart_25 : decode cX3_areApart 25 = .ok (.getfield 29, 3) := by decide +kernel
theorem dX3_areApart_28 : decode cX3_areApart 28 = .ok (.iload_n 2, 1) := by decide +kernel
theorem dX3_areApart_29 : decode cX3_areApart 29 = .ok (.laload, 1) := by decide +kernel
theorem dX3_areApart_30 : decode cX3_areApart 30 = .ok (.land, 1) := by decide +kernel
theorem dX3_areApart_31 : decode cX3_areApart 31 = .ok (.lconst 0, 1) := by decide +kernel
theorem dX3_areApart_32 : decode cX3_areApart 32 = .ok (.lcmp, 1) := by decide +kernel
theorem dX3_areApart_33 : decode cX3_areApart 33 = .ok (.ifCond .ne 7, 3) := by decide +kernel
theorem dX3_areApart_36 : decode cX3_areApart 36 = .ok (.iconst 1, 1) := by decide +kernel
theorem dX3_areApart_37 : decode cX3_areApart 37 = .ok (.goto 4, 3) := by decide +kernel
theorem dX3_areApart_40 : decode cX3_areApart 40 = .ok (.iconst 0, 1) := by decide +kernel
theorem dX3_areApart_41 : decode cX3_areApart 41 = .ok (.ireturn, 1) := by decide +kernel
theorem dX3_keep_0 : decode cX3_keep 0 = .ok (.aload_n 0, 1) := by decide +kernel
theorem dX3_keep_1 : decode cX3_keep 1 = .ok (.iload_n 1, 1) := by decide +kernel
theorem dX3_keep_2 : decode cX3_keep 2 = .ok (.putfield 96, 3) := by decide +kernel
theorem dX3_keep_5 : decode cX3_keep 5 = .ok (.aload_n 0, 1) := by decide +kernel
theorem dX3_keep_6 : decode cX3_keep 6 = .ok (.iload_n 2, 1) := by decide +kernel
theorem dX3_keep_7 : decode cX3_keep 7 = .ok (.putfield 99, 3) := by decide +kernel
theorem dX3_keep_10 : decode cX3_keep 10 = .ok (.aload_n 0, 1) := by decide +kernel
theorem dX3_keep_11 : decode cX3_keep 11 = .ok (.iload_n 3, 1) := by decide +kernel
theorem dX3_keep_12 : decode cX3_keep 12 = .ok (.putfield 102, 3) := by decide +kernel
theorem dX3_keep_15 : decode cX3_keep 15 = .ok (.aload_n 0, 1) := by decide +kernel
theorem dX3_keep_16 : decode cX3_keep 16 = .ok (.iload 4, 2) := by decide +kernel
theorem dX3_keep_18 : decode cX3_keep 18 = .ok (.putfield 105, 3) := by decide +kernel
theorem dX3_keep_21 : decode cX3_keep 21 = .ok (.aload_n 0, 1) := by decide +kernel
theorem dX3_keep_22 : decode cX3_keep 22 = .ok (.iload 5, 2) := by decide +kernel
theorem dX3_keep_24 : decode cX3_keep 24 = .ok (.putfield 89, 3) := by decide +kernel
theorem dX3_keep_27 : decode cX3_keep 27 = .ok (.return_, 1) := by decide +kernel
theorem dX3_ofBest_0 : decode cX3_ofBest 0 = .ok (.aload_n 0, 1) := by decide +kernel
theorem dX3_ofBest_1 : decode cX3_ofBest 1 = .ok (.getfield 39, 3) := by decide +kernel
