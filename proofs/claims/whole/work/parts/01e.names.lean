theorem dX6_toll_9 : decode cX6_toll 9 = .ok (.invokevirtual 132, 3) := by decide +kernel
theorem dX6_toll_12 : decode cX6_toll 12 = .ok (.ifCond .eq 27, 3) := by decide +kernel
theorem dX6_toll_15 : decode cX6_toll 15 = .ok (.iload_n 2, 1) := by decide +kernel
theorem dX6_toll_16 : decode cX6_toll 16 = .ok (.iconst (-1), 1) := by decide +kernel
theorem dX6_toll_17 : decode cX6_toll 17 = .ok (.if_icmp .eq 18, 3) := by decide +kernel
theorem dX6_toll_20 : decode cX6_toll 20 = .ok (.iload_n 2, 1) := by decide +kernel
theorem dX6_toll_21 : decode cX6_toll 21 = .ok (.invokestatic 80, 3) := by decide +kernel
theorem dX6_toll_24 : decode cX6_toll 24 = .ok (.ifCond .eq 15, 3) := by decide +kernel
theorem dX6_toll_27 : decode cX6_toll 27 = .ok (.aload_n 0, 1) := by decide +kernel
theorem dX6_toll_28 : decode cX6_toll 28 = .ok (.iload_n 2, 1) := by decide +kernel
theorem dX6_toll_29 : decode cX6_toll 29 = .ok (.invokevirtual 132, 3) := by decide +kernel
theorem dX6_toll_32 : decode cX6_toll 32 = .ok (.ifCond .eq 7, 3) := by decide +kernel
theorem dX6_toll_35 : decode cX6_toll 35 = .ok (.iconst 1, 1) := by decide +kernel
theorem dX6_toll_36 : decode cX6_toll 36 = .ok (.goto 4, 3) := by decide +kernel
theorem dX6_toll_39 : decode cX6_toll 39 = .ok (.iconst 0, 1) := by decide +kernel
theorem dX6_toll_40 : decode cX6_toll 40 = .ok (.istore 4, 2) := by decide +kernel
theorem dX6_toll_42 : decode cX6_toll 42 = .ok (.iload 4, 2) := by decide +kernel
theorem dX6_toll_44 : decode cX6_toll 44 = .ok (.ifCond .eq 14, 3) := by decide +kernel
theorem dX6_toll_47 : decode cX6_toll 47 = .ok (.iload_n 3, 1) := by decide +kernel
theorem dX6_toll_48 : decode cX6_toll 48 = .ok (.iconst 0, 1) := by decide +kernel
theorem dX6_toll_49 : decode cX6_toll 49 = .ok (.sipush 1000, 3) := by decide +kernel
theorem dX6_toll_52 : decode cX6_toll 52 = .ok (.invokestatic 57, 3) := by decide +kernel
theorem dX6_toll_55 : decode cX6_toll 55 = .ok (.ifCond .ne 5, 3) := by decide +kernel
theorem dX6_toll_58 : decode cX6_toll 58 = .ok (.iconst (-1), 1) := by decide +kernel
theorem dX6_toll_59 : decode cX6_toll 59 = .ok (.ireturn, 1) := by decide +kernel
theorem dX6_toll_60 : decode cX6_toll 60 = .ok (.iload_n 2, 1) := by decide +kernel
theorem dX6_toll_61 : decode cX6_toll 61 = .ok (.iconst (-1), 1) := by decide +kernel
theorem dX6_toll_62 : decode cX6_toll 62 = .ok (.if_icmp .ne 23, 3) := by decide +kernel
theorem dX6_toll_65 : decode cX6_toll 65 = .ok (.aload_n 0, 1) := by decide +kernel
theorem dX6_toll_66 : decode cX6_toll 66 = .ok (.invokevirtual 135, 3) := by decide +kernel
theorem dX6_toll_69 : decode cX6_toll 69 = .ok (.aload_n 0, 1) := by decide +kernel
theorem dX6_toll_70 : decode cX6_toll 70 = .ok (.iload_n 1, 1) := by decide +kernel
theorem dX6_toll_71 : decode cX6_toll 71 = .ok (.iconst 0, 1) := by decide +kernel
theorem dX6_toll_72 : decode cX6_toll 72 = .ok (.invokevirtual 84, 3) := by decide +kernel
theorem dX6_toll_75 : decode cX6_toll 75 = .ok (.isub, 1) := by decide +kernel
theorem dX6_toll_76 : decode cX6_toll 76 = .ok (.iload_n 1, 1) := by decide +kernel
theorem dX6_toll_77 : decode cX6_toll 77 = .ok (.invokestatic 126, 3) := by decide +kernel
theorem dX6_toll_80 : decode cX6_toll 80 = .ok (.iload_n 3, 1) := by decide +kernel
theorem dX6_toll_81 : decode cX6_toll 81 = .ok (.invokestatic 139, 3) := by decide +kernel
theorem dX6_toll_84 : decode cX6_toll 84 = .ok (.ireturn, 1) := by decide +kernel
theorem dX6_toll_85 : decode cX6_toll 85 = .ok (.iload_n 1, 1) := by decide +kernel
theorem dX6_toll_86 : decode cX6_toll 86 = .ok (.iload_n 2, 1) := by decide +kernel
theorem dX6_toll_87 : decode cX6_toll 87 = .ok (.if_icmp .eq 12, 3) := by decide +kernel
theorem dX6_toll_90 : decode cX6_toll 90 = .ok (.aload_n 0, 1) := by decide +kernel
theorem dX6_toll_91 : decode cX6_toll 91 = .ok (.iload_n 1, 1) := by decide +kernel
theorem dX6_toll_92 : decode cX6_toll 92 = .ok (.iload_n 2, 1) := by decide +kernel
theorem dX6_toll_93 : decode cX6_toll 93 = .ok (.invokevirtual 155, 3) := by decide +kernel
theorem dX6_toll_96 : decode cX6_toll 96 = .ok (.ifCond .eq 6, 3) := by decide +kernel
theorem dX6_toll_99 : decode cX6_toll 99 = .ok (.bipush (-3), 2) := by decide +kernel
theorem dX6_toll_101 : decode cX6_toll 101 = .ok (.ireturn, 1) := by decide +kernel
theorem dX6_toll_102 : decode cX6_toll 102 = .ok (.aload_n 0, 1) := by decide +kernel
theorem dX6_toll_103 : decode cX6_toll 103 = .ok (.invokevirtual 135, 3) := by decide +kernel
theorem dX6_toll_106 : decode cX6_toll 106 = .ok (.aload_n 0, 1) := by decide +kernel
theorem dX6_toll_107 : decode cX6_toll 107 = .ok (.iload_n 1, 1) := by decide +kernel
theorem dX6_toll_108 : decode cX6_toll 108 = .ok (.iconst 0, 1) := by decide +kernel
theorem dX6_toll_109 : decode cX6_toll 109 = .ok (.invokevirtual 84, 3) := by decide +kernel
theorem dX6_toll_112 : decode cX6_toll 112 = .ok (.isub, 1) := by decide +kernel
theorem dX6_toll_113 : decode cX6_toll 113 = .ok (.aload_n 0, 1) := by decide +kernel
theorem dX6_toll_114 : decode cX6_toll 114 = .ok (.iload_n 2, 1) := by decide +kernel
theorem dX6_toll_115 : decode cX6_toll 115 = .ok (.iconst 0, 1) := by decide +kernel
theorem dX6_toll_116 : decode cX6_toll 116 = .ok (.invokevirtual 84, 3) := by decide +kernel
theorem dX6_toll_119 : decode cX6_toll 119 = .ok (.isub, 1) := by decide +kernel
theorem dX6_toll_120 : decode cX6_toll 120 = .ok (.iload_n 1, 1) := by decide +kernel
theorem dX6_toll_121 : decode cX6_toll 121 = .ok (.invokestatic 126, 3) := by decide +kernel
theorem dX6_toll_124 : decode cX6_toll 124 = .ok (.iload_n 2, 1) := by decide +kernel
theorem dX6_toll_125 : decode cX6_toll 125 = .ok (.invokestatic 126, 3) := by decide +kernel
theorem dX6_toll_128 : decode cX6_toll 128 = .ok (.iadd, 1) := by decide +kernel
theorem dX6_toll_129 : decode cX6_toll 129 = .ok (.iload_n 3, 1) := by decide +kernel
theorem dX6_toll_130 : decode cX6_toll 130 = .ok (.invokestatic 139, 3) := by decide +kernel
theorem dX6_toll_133 : decode cX6_toll 133 = .ok (.ireturn, 1) := by decide +kernel
set_option maxRecDepth 20000 in
theorem ggX6_first_X6_isHeap : GoodIn wsX6_first wsX6_isHeap := goodIn_r _ [8, 9, 10, 7, 11] (by decide +kernel) (by decide +kernel)
set_option maxRecDepth 20000 in
theorem gX6_first_X6_isHeap : GoodIn wsX6_first (va_wsS RX6 80 yX6_isHeap wsX6_isHeap) := goodIn_app (goodIn_of _ (by decide +kernel)) ggX6_first_X6_isHeap
set_option maxRecDepth 20000 in
theorem ggX6_first_X6_in : GoodIn wsX6_first wsX6_in := goodIn_r _ [11] (by decide +kernel) (by decide +kernel)
set_option maxRecDepth 20000 in
theorem gX6_first_X6_in : GoodIn wsX6_first (va_wsS RX6 57 yX6_in wsX6_in) := goodIn_app (goodIn_of _ (by decide +kernel)) ggX6_first_X6_in
set_option maxRecDepth 20000 in
theorem ggX6_first_X6_isIn : GoodIn wsX6_first wsX6_isIn := goodIn_r _ [15, 16, 17, 18, 19, 7, 20, 21, 22, 23, 24, 25, 26, 27, 28, 29, 30, 31, 32, 33, 34, 35, 36, 37, 38, 39] (by decide +kernel) (by decide +kernel)
set_option maxRecDepth 20000 in
theorem gX6_first_X6_isIn : GoodIn wsX6_first (wsV RX6 69 RX6 yX6_isIn wsX6_isIn) := goodIn_app (goodIn_of _ (by decide +kernel)) ggX6_first_X6_isIn
theorem dX6_first_0 : decode cX6_first 0 = .ok (.iload_n 1, 1) := by decide +kernel
theorem dX6_first_1 : decode cX6_first 1 = .ok (.invokestatic 80, 3) := by decide +kernel
theorem dX6_first_4 : decode cX6_first 4 = .ok (.ifCond .eq 14, 3) := by decide +kernel
theorem dX6_first_7 : decode cX6_first 7 = .ok (.iload_n 2, 1) := by decide +kernel
theorem dX6_first_8 : decode cX6_first 8 = .ok (.iconst 0, 1) := by decide +kernel
theorem dX6_first_9 : decode cX6_first 9 = .ok (.sipush 9999, 3) := by decide +kernel
theorem dX6_first_12 : decode cX6_first 12 = .ok (.invokestatic 57, 3) := by decide +kernel
theorem dX6_first_15 : decode cX6_first 15 = .ok (.ifCond .ne 5, 3) := by decide +kernel
theorem dX6_first_18 : decode cX6_first 18 = .ok (.iconst (-1), 1) := by decide +kernel
theorem dX6_first_19 : decode cX6_first 19 = .ok (.ireturn, 1) := by decide +kernel
theorem dX6_first_20 : decode cX6_first 20 = .ok (.iconst 0, 1) := by decide +kernel
theorem dX6_first_21 : decode cX6_first 21 = .ok (.istore_n 3, 1) := by decide +kernel
theorem dX6_first_22 : decode cX6_first 22 = .ok (.iload_n 3, 1) := by decide +kernel
theorem dX6_first_23 : decode cX6_first 23 = .ok (.bipush 30, 2) := by decide +kernel
theorem dX6_first_25 : decode cX6_first 25 = .ok (.if_icmp .gt 116, 3) := by decide +kernel
theorem dX6_first_28 : decode cX6_first 28 = .ok (.iconst 0, 1) := by decide +kernel
theorem dX6_first_29 : decode cX6_first 29 = .ok (.istore 4, 2) := by decide +kernel
theorem dX6_first_31 : decode cX6_first 31 = .ok (.iconst 0, 1) := by decide +kernel
theorem dX6_first_32 : decode cX6_first 32 = .ok (.istore 5, 2) := by decide +kernel
theorem dX6_first_34 : decode cX6_first 34 = .ok (.iload 5, 2) := by decide +kernel
theorem dX6_first_36 : decode cX6_first 36 = .ok (.aload_n 0, 1) := by decide +kernel
theorem dX6_first_37 : decode cX6_first 37 = .ok (.getfield 54, 3) := by decide +kernel
theorem dX6_first_40 : decode cX6_first 40 = .ok (.if_icmp .ge 80, 3) := by decide +kernel
theorem dX6_first_43 : decode cX6_first 43 = .ok (.aload_n 0, 1) := by decide +kernel
theorem dX6_first_44 : decode cX6_first 44 = .ok (.iload 5, 2) := by decide +kernel
theorem dX6_first_46 : decode cX6_first 46 = .ok (.iload_n 1, 1) := by decide +kernel
theorem dX6_first_47 : decode cX6_first 47 = .ok (.invokevirtual 69, 3) := by decide +kernel
theorem dX6_first_50 : decode cX6_first 50 = .ok (.ifCond .eq 18, 3) := by decide +kernel
theorem dX6_first_53 : decode cX6_first 53 = .ok (.aload_n 0, 1) := by decide +kernel
theorem dX6_first_54 : decode cX6_first 54 = .ok (.getfield 13, 3) := by decide +kernel
theorem dX6_first_57 : decode cX6_first 57 = .ok (.iload 5, 2) := by decide +kernel
theorem dX6_first_59 : decode cX6_first 59 = .ok (.iaload, 1) := by decide +kernel
theorem dX6_first_60 : decode cX6_first 60 = .ok (.iload_n 3, 1) := by decide +kernel
theorem dX6_first_61 : decode cX6_first 61 = .ok (.if_icmp .gt 7, 3) := by decide +kernel
theorem dX6_first_64 : decode cX6_first 64 = .ok (.iconst 1, 1) := by decide +kernel
theorem dX6_first_65 : decode cX6_first 65 = .ok (.goto 4, 3) := by decide +kernel
theorem dX6_first_68 : decode cX6_first 68 = .ok (.iconst 0, 1) := by decide +kernel
theorem dX6_first_69 : decode cX6_first 69 = .ok (.istore 6, 2) := by decide +kernel
theorem dX6_first_71 : decode cX6_first 71 = .ok (.iload 4, 2) := by decide +kernel
theorem dX6_first_73 : decode cX6_first 73 = .ok (.iload 6, 2) := by decide +kernel
theorem dX6_first_75 : decode cX6_first 75 = .ok (.ifCond .ne 7, 3) := by decide +kernel
theorem dX6_first_78 : decode cX6_first 78 = .ok (.iconst 0, 1) := by decide +kernel
theorem dX6_first_79 : decode cX6_first 79 = .ok (.goto 32, 3) := by decide +kernel
theorem dX6_first_82 : decode cX6_first 82 = .ok (.aload_n 0, 1) := by decide +kernel
theorem dX6_first_83 : decode cX6_first 83 = .ok (.getfield 7, 3) := by decide +kernel
theorem dX6_first_86 : decode cX6_first 86 = .ok (.iload 5, 2) := by decide +kernel
theorem dX6_first_88 : decode cX6_first 88 = .ok (.iaload, 1) := by decide +kernel
theorem dX6_first_89 : decode cX6_first 89 = .ok (.iconst 1, 1) := by decide +kernel
theorem dX6_first_90 : decode cX6_first 90 = .ok (.if_icmp .ne 13, 3) := by decide +kernel
theorem dX6_first_93 : decode cX6_first 93 = .ok (.aload_n 0, 1) := by decide +kernel
theorem dX6_first_94 : decode cX6_first 94 = .ok (.getfield 16, 3) := by decide +kernel
theorem dX6_first_97 : decode cX6_first 97 = .ok (.iload 5, 2) := by decide +kernel
theorem dX6_first_99 : decode cX6_first 99 = .ok (.iaload, 1) := by decide +kernel
theorem dX6_first_100 : decode cX6_first 100 = .ok (.goto 11, 3) := by decide +kernel
theorem dX6_first_103 : decode cX6_first 103 = .ok (.aload_n 0, 1) := by decide +kernel
theorem dX6_first_104 : decode cX6_first 104 = .ok (.getfield 16, 3) := by decide +kernel
theorem dX6_first_107 : decode cX6_first 107 = .ok (.iload 5, 2) := by decide +kernel
theorem dX6_first_109 : decode cX6_first 109 = .ok (.iaload, 1) := by decide +kernel
theorem dX6_first_110 : decode cX6_first 110 = .ok (.ineg, 1) := by decide +kernel
theorem dX6_first_111 : decode cX6_first 111 = .ok (.iadd, 1) := by decide +kernel
theorem dX6_first_112 : decode cX6_first 112 = .ok (.istore 4, 2) := by decide +kernel
theorem dX6_first_114 : decode cX6_first 114 = .ok (.iinc 5 1, 3) := by decide +kernel
theorem dX6_first_117 : decode cX6_first 117 = .ok (.goto (-83), 3) := by decide +kernel
theorem dX6_first_120 : decode cX6_first 120 = .ok (.iload 4, 2) := by decide +kernel
theorem dX6_first_122 : decode cX6_first 122 = .ok (.iload_n 2, 1) := by decide +kernel
theorem dX6_first_123 : decode cX6_first 123 = .ok (.if_icmp .gt 10, 3) := by decide +kernel
theorem dX6_first_126 : decode cX6_first 126 = .ok (.iload 4, 2) := by decide +kernel
theorem dX6_first_128 : decode cX6_first 128 = .ok (.ineg, 1) := by decide +kernel
theorem dX6_first_129 : decode cX6_first 129 = .ok (.iload_n 2, 1) := by decide +kernel
theorem dX6_first_130 : decode cX6_first 130 = .ok (.if_icmp .le 5, 3) := by decide +kernel
theorem dX6_first_133 : decode cX6_first 133 = .ok (.iload_n 3, 1) := by decide +kernel
theorem dX6_first_134 : decode cX6_first 134 = .ok (.ireturn, 1) := by decide +kernel
theorem dX6_first_135 : decode cX6_first 135 = .ok (.iinc 3 1, 3) := by decide +kernel
theorem dX6_first_138 : decode cX6_first 138 = .ok (.goto (-116), 3) := by decide +kernel
theorem dX6_first_141 : decode cX6_first 141 = .ok (.bipush 31, 2) := by decide +kernel
theorem dX6_first_143 : decode cX6_first 143 = .ok (.ireturn, 1) := by decide +kernel
set_option maxRecDepth 20000 in
theorem ggX6_count_X6_mayTell : GoodIn wsX6_count wsX6_mayTell := goodIn_r _ [7, 8, 9, 6, 10, 11, 12, 13, 14, 15, 16, 17, 18, 19, 20, 1, 21, 22, 23, 24, 2, 25, 26, 27, 28, 29, 30, 31, 32, 33, 34, 35, 36, 37, 38, 39, 40, 41, 42, 43, 44] (by decide +kernel) (by decide +kernel)
set_option maxRecDepth 20000 in
theorem gX6_count_X6_mayTell : GoodIn wsX6_count (wsV RX6 132 RX6 yX6_mayTell wsX6_mayTell) := goodIn_app (goodIn_of _ (by decide +kernel)) ggX6_count_X6_mayTell
theorem dX6_count_0 : decode cX6_count 0 = .ok (.iconst 0, 1) := by decide +kernel
theorem dX6_count_1 : decode cX6_count 1 = .ok (.istore_n 2, 1) := by decide +kernel
theorem dX6_count_2 : decode cX6_count 2 = .ok (.iload_n 1, 1) := by decide +kernel
theorem dX6_count_3 : decode cX6_count 3 = .ok (.tableswitch 98 0 2 #[25, 30, 65], 25) := by decide +kernel
theorem dX6_count_28 : decode cX6_count 28 = .ok (.aload_n 0, 1) := by decide +kernel
theorem dX6_count_29 : decode cX6_count 29 = .ok (.getfield 54, 3) := by decide +kernel
theorem dX6_count_32 : decode cX6_count 32 = .ok (.ireturn, 1) := by decide +kernel
theorem dX6_count_33 : decode cX6_count 33 = .ok (.iconst 0, 1) := by decide +kernel
theorem dX6_count_34 : decode cX6_count 34 = .ok (.istore_n 3, 1) := by decide +kernel
theorem dX6_count_35 : decode cX6_count 35 = .ok (.iload_n 3, 1) := by decide +kernel
theorem dX6_count_36 : decode cX6_count 36 = .ok (.aload_n 0, 1) := by decide +kernel
theorem dX6_count_37 : decode cX6_count 37 = .ok (.getfield 54, 3) := by decide +kernel
theorem dX6_count_40 : decode cX6_count 40 = .ok (.if_icmp .ge 26, 3) := by decide +kernel
theorem dX6_count_43 : decode cX6_count 43 = .ok (.iload_n 2, 1) := by decide +kernel
theorem dX6_count_44 : decode cX6_count 44 = .ok (.aload_n 0, 1) := by decide +kernel
theorem dX6_count_45 : decode cX6_count 45 = .ok (.getfield 28, 3) := by decide +kernel
theorem dX6_count_48 : decode cX6_count 48 = .ok (.iload_n 3, 1) := by decide +kernel
theorem dX6_count_49 : decode cX6_count 49 = .ok (.baload, 1) := by decide +kernel
theorem dX6_count_50 : decode cX6_count 50 = .ok (.ifCond .eq 7, 3) := by decide +kernel
theorem dX6_count_53 : decode cX6_count 53 = .ok (.iconst 1, 1) := by decide +kernel
theorem dX6_count_54 : decode cX6_count 54 = .ok (.goto 4, 3) := by decide +kernel
theorem dX6_count_57 : decode cX6_count 57 = .ok (.iconst 0, 1) := by decide +kernel
theorem dX6_count_58 : decode cX6_count 58 = .ok (.iadd, 1) := by decide +kernel
theorem dX6_count_59 : decode cX6_count 59 = .ok (.istore_n 2, 1) := by decide +kernel
theorem dX6_count_60 : decode cX6_count 60 = .ok (.iinc 3 1, 3) := by decide +kernel
theorem dX6_count_63 : decode cX6_count 63 = .ok (.goto (-28), 3) := by decide +kernel
theorem dX6_count_66 : decode cX6_count 66 = .ok (.iload_n 2, 1) := by decide +kernel
theorem dX6_count_67 : decode cX6_count 67 = .ok (.ireturn, 1) := by decide +kernel
theorem dX6_count_68 : decode cX6_count 68 = .ok (.iconst 1, 1) := by decide +kernel
theorem dX6_count_69 : decode cX6_count 69 = .ok (.istore_n 3, 1) := by decide +kernel
theorem dX6_count_70 : decode cX6_count 70 = .ok (.iload_n 3, 1) := by decide +kernel
theorem dX6_count_71 : decode cX6_count 71 = .ok (.sipush 729, 3) := by decide +kernel
theorem dX6_count_74 : decode cX6_count 74 = .ok (.if_icmp .ge 25, 3) := by decide +kernel
theorem dX6_count_77 : decode cX6_count 77 = .ok (.iload_n 2, 1) := by decide +kernel
theorem dX6_count_78 : decode cX6_count 78 = .ok (.aload_n 0, 1) := by decide +kernel
theorem dX6_count_79 : decode cX6_count 79 = .ok (.iload_n 3, 1) := by decide +kernel
theorem dX6_count_80 : decode cX6_count 80 = .ok (.invokevirtual 132, 3) := by decide +kernel
theorem dX6_count_83 : decode cX6_count 83 = .ok (.ifCond .eq 7, 3) := by decide +kernel
theorem dX6_count_86 : decode cX6_count 86 = .ok (.iconst 1, 1) := by decide +kernel
theorem dX6_count_87 : decode cX6_count 87 = .ok (.goto 4, 3) := by decide +kernel
theorem dX6_count_90 : decode cX6_count 90 = .ok (.iconst 0, 1) := by decide +kernel
theorem dX6_count_91 : decode cX6_count 91 = .ok (.iadd, 1) := by decide +kernel
theorem dX6_count_92 : decode cX6_count 92 = .ok (.istore_n 2, 1) := by decide +kernel
theorem dX6_count_93 : decode cX6_count 93 = .ok (.iinc 3 1, 3) := by decide +kernel
theorem dX6_count_96 : decode cX6_count 96 = .ok (.goto (-26), 3) := by decide +kernel
theorem dX6_count_99 : decode cX6_count 99 = .ok (.iload_n 2, 1) := by decide +kernel
theorem dX6_count_100 : decode cX6_count 100 = .ok (.ireturn, 1) := by decide +kernel
theorem dX6_count_101 : decode cX6_count 101 = .ok (.iconst (-1), 1) := by decide +kernel
theorem dX6_count_102 : decode cX6_count 102 = .ok (.ireturn, 1) := by decide +kernel
theorem dJ6_bitCount_0f7a4_0 : decode cJ6_bitCount_0f7a4 0 = .ok (.iload_n 0, 1) := by decide +kernel
theorem dJ6_bitCount_0f7a4_1 : decode cJ6_bitCount_0f7a4 1 = .ok (.iload_n 0, 1) := by decide +kernel
theorem dJ6_bitCount_0f7a4_2 : decode cJ6_bitCount_0f7a4 2 = .ok (.iconst 1, 1) := by decide +kernel
theorem dJ6_bitCount_0f7a4_3 : decode cJ6_bitCount_0f7a4 3 = .ok (.iushr, 1) := by decide +kernel
theorem dJ6_bitCount_0f7a4_4 : decode cJ6_bitCount_0f7a4 4 = .ok (.ldc_w 265, 3) := by decide +kernel
theorem dJ6_bitCount_0f7a4_7 : decode cJ6_bitCount_0f7a4 7 = .ok (.iand, 1) := by decide +kernel
theorem dJ6_bitCount_0f7a4_8 : decode cJ6_bitCount_0f7a4 8 = .ok (.isub, 1) := by decide +kernel
theorem dJ6_bitCount_0f7a4_9 : decode cJ6_bitCount_0f7a4 9 = .ok (.istore_n 0, 1) := by decide +kernel
theorem dJ6_bitCount_0f7a4_10 : decode cJ6_bitCount_0f7a4 10 = .ok (.iload_n 0, 1) := by decide +kernel
theorem dJ6_bitCount_0f7a4_11 : decode cJ6_bitCount_0f7a4 11 = .ok (.ldc_w 266, 3) := by decide +kernel
theorem dJ6_bitCount_0f7a4_14 : decode cJ6_bitCount_0f7a4 14 = .ok (.iand, 1) := by decide +kernel
theorem dJ6_bitCount_0f7a4_15 : decode cJ6_bitCount_0f7a4 15 = .ok (.iload_n 0, 1) := by decide +kernel
theorem dJ6_bitCount_0f7a4_16 : decode cJ6_bitCount_0f7a4 16 = .ok (.iconst 2, 1) := by decide +kernel
theorem dJ6_bitCount_0f7a4_17 : decode cJ6_bitCount_0f7a4 17 = .ok (.iushr, 1) := by decide +kernel
theorem dJ6_bitCount_0f7a4_18 : decode cJ6_bitCount_0f7a4 18 = .ok (.ldc_w 266, 3) := by decide +kernel
theorem dJ6_bitCount_0f7a4_21 : decode cJ6_bitCount_0f7a4 21 = .ok (.iand, 1) := by decide +kernel
theorem dJ6_bitCount_0f7a4_22 : decode cJ6_bitCount_0f7a4 22 = .ok (.iadd, 1) := by decide +kernel
theorem dJ6_bitCount_0f7a4_23 : decode cJ6_bitCount_0f7a4 23 = .ok (.istore_n 0, 1) := by decide +kernel
theorem dJ6_bitCount_0f7a4_24 : decode cJ6_bitCount_0f7a4 24 = .ok (.iload_n 0, 1) := by decide +kernel
theorem dJ6_bitCount_0f7a4_25 : decode cJ6_bitCount_0f7a4 25 = .ok (.iload_n 0, 1) := by decide +kernel
theorem dJ6_bitCount_0f7a4_26 : decode cJ6_bitCount_0f7a4 26 = .ok (.iconst 4, 1) := by decide +kernel
theorem dJ6_bitCount_0f7a4_27 : decode cJ6_bitCount_0f7a4 27 = .ok (.iushr, 1) := by decide +kernel
theorem dJ6_bitCount_0f7a4_28 : decode cJ6_bitCount_0f7a4 28 = .ok (.iadd, 1) := by decide +kernel
theorem dJ6_bitCount_0f7a4_29 : decode cJ6_bitCount_0f7a4 29 = .ok (.ldc_w 267, 3) := by decide +kernel
theorem dJ6_bitCount_0f7a4_32 : decode cJ6_bitCount_0f7a4 32 = .ok (.iand, 1) := by decide +kernel
theorem dJ6_bitCount_0f7a4_33 : decode cJ6_bitCount_0f7a4 33 = .ok (.istore_n 0, 1) := by decide +kernel
theorem dJ6_bitCount_0f7a4_34 : decode cJ6_bitCount_0f7a4 34 = .ok (.iload_n 0, 1) := by decide +kernel
theorem dJ6_bitCount_0f7a4_35 : decode cJ6_bitCount_0f7a4 35 = .ok (.iload_n 0, 1) := by decide +kernel
theorem dJ6_bitCount_0f7a4_36 : decode cJ6_bitCount_0f7a4 36 = .ok (.bipush 8, 2) := by decide +kernel
theorem dJ6_bitCount_0f7a4_38 : decode cJ6_bitCount_0f7a4 38 = .ok (.iushr, 1) := by decide +kernel
theorem dJ6_bitCount_0f7a4_39 : decode cJ6_bitCount_0f7a4 39 = .ok (.iadd, 1) := by decide +kernel
theorem dJ6_bitCount_0f7a4_40 : decode cJ6_bitCount_0f7a4 40 = .ok (.istore_n 0, 1) := by decide +kernel
theorem dJ6_bitCount_0f7a4_41 : decode cJ6_bitCount_0f7a4 41 = .ok (.iload_n 0, 1) := by decide +kernel
theorem dJ6_bitCount_0f7a4_42 : decode cJ6_bitCount_0f7a4 42 = .ok (.iload_n 0, 1) := by decide +kernel
theorem dJ6_bitCount_0f7a4_43 : decode cJ6_bitCount_0f7a4 43 = .ok (.bipush 16, 2) := by decide +kernel
theorem dJ6_bitCount_0f7a4_45 : decode cJ6_bitCount_0f7a4 45 = .ok (.iushr, 1) := by decide +kernel
theorem dJ6_bitCount_0f7a4_46 : decode cJ6_bitCount_0f7a4 46 = .ok (.iadd, 1) := by decide +kernel
theorem dJ6_bitCount_0f7a4_47 : decode cJ6_bitCount_0f7a4 47 = .ok (.istore_n 0, 1) := by decide +kernel
theorem dJ6_bitCount_0f7a4_48 : decode cJ6_bitCount_0f7a4 48 = .ok (.iload_n 0, 1) := by decide +kernel
theorem dJ6_bitCount_0f7a4_49 : decode cJ6_bitCount_0f7a4 49 = .ok (.bipush 63, 2) := by decide +kernel
theorem dJ6_bitCount_0f7a4_51 : decode cJ6_bitCount_0f7a4 51 = .ok (.iand, 1) := by decide +kernel
theorem dJ6_bitCount_0f7a4_52 : decode cJ6_bitCount_0f7a4 52 = .ok (.ireturn, 1) := by decide +kernel
theorem dJ13_bitCount_95d88_0 : decode cJ13_bitCount_95d88 0 = .ok (.lload_n 0, 1) := by decide +kernel
theorem dJ13_bitCount_95d88_1 : decode cJ13_bitCount_95d88 1 = .ok (.lload_n 0, 1) := by decide +kernel
theorem dJ13_bitCount_95d88_2 : decode cJ13_bitCount_95d88 2 = .ok (.iconst 1, 1) := by decide +kernel
theorem dJ13_bitCount_95d88_3 : decode cJ13_bitCount_95d88 3 = .ok (.lushr, 1) := by decide +kernel
theorem dJ13_bitCount_95d88_4 : decode cJ13_bitCount_95d88 4 = .ok (.ldc2_w 314, 3) := by decide +kernel
theorem dJ13_bitCount_95d88_7 : decode cJ13_bitCount_95d88 7 = .ok (.land, 1) := by decide +kernel
theorem dJ13_bitCount_95d88_8 : decode cJ13_bitCount_95d88 8 = .ok (.lsub, 1) := by decide +kernel
theorem dJ13_bitCount_95d88_9 : decode cJ13_bitCount_95d88 9 = .ok (.lstore_n 0, 1) := by decide +kernel
theorem dJ13_bitCount_95d88_10 : decode cJ13_bitCount_95d88 10 = .ok (.lload_n 0, 1) := by decide +kernel
theorem dJ13_bitCount_95d88_11 : decode cJ13_bitCount_95d88 11 = .ok (.ldc2_w 316, 3) := by decide +kernel
theorem dJ13_bitCount_95d88_14 : decode cJ13_bitCount_95d88 14 = .ok (.land, 1) := by decide +kernel
theorem dJ13_bitCount_95d88_15 : decode cJ13_bitCount_95d88 15 = .ok (.lload_n 0, 1) := by decide +kernel
theorem dJ13_bitCount_95d88_16 : decode cJ13_bitCount_95d88 16 = .ok (.iconst 2, 1) := by decide +kernel
theorem dJ13_bitCount_95d88_17 : decode cJ13_bitCount_95d88 17 = .ok (.lushr, 1) := by decide +kernel
theorem dJ13_bitCount_95d88_18 : decode cJ13_bitCount_95d88 18 = .ok (.ldc2_w 316, 3) := by decide +kernel
theorem dJ13_bitCount_95d88_21 : decode cJ13_bitCount_95d88 21 = .ok (.land, 1) := by decide +kernel
theorem dJ13_bitCount_95d88_22 : decode cJ13_bitCount_95d88 22 = .ok (.ladd, 1) := by decide +kernel
theorem dJ13_bitCount_95d88_23 : decode cJ13_bitCount_95d88 23 = .ok (.lstore_n 0, 1) := by decide +kernel
theorem dJ13_bitCount_95d88_24 : decode cJ13_bitCount_95d88 24 = .ok (.lload_n 0, 1) := by decide +kernel
theorem dJ13_bitCount_95d88_25 : decode cJ13_bitCount_95d88 25 = .ok (.lload_n 0, 1) := by decide +kernel
theorem dJ13_bitCount_95d88_26 : decode cJ13_bitCount_95d88 26 = .ok (.iconst 4, 1) := by decide +kernel
theorem dJ13_bitCount_95d88_27 : decode cJ13_bitCount_95d88 27 = .ok (.lushr, 1) := by decide +kernel
theorem dJ13_bitCount_95d88_28 : decode cJ13_bitCount_95d88 28 = .ok (.ladd, 1) := by decide +kernel
theorem dJ13_bitCount_95d88_29 : decode cJ13_bitCount_95d88 29 = .ok (.ldc2_w 318, 3) := by decide +kernel
theorem dJ13_bitCount_95d88_32 : decode cJ13_bitCount_95d88 32 = .ok (.land, 1) := by decide +kernel
theorem dJ13_bitCount_95d88_33 : decode cJ13_bitCount_95d88 33 = .ok (.lstore_n 0, 1) := by decide +kernel
theorem dJ13_bitCount_95d88_34 : decode cJ13_bitCount_95d88 34 = .ok (.lload_n 0, 1) := by decide +kernel
theorem dJ13_bitCount_95d88_35 : decode cJ13_bitCount_95d88 35 = .ok (.lload_n 0, 1) := by decide +kernel
theorem dJ13_bitCount_95d88_36 : decode cJ13_bitCount_95d88 36 = .ok (.bipush 8, 2) := by decide +kernel
theorem dJ13_bitCount_95d88_38 : decode cJ13_bitCount_95d88 38 = .ok (.lushr, 1) := by decide +kernel
theorem dJ13_bitCount_95d88_39 : decode cJ13_bitCount_95d88 39 = .ok (.ladd, 1) := by decide +kernel
theorem dJ13_bitCount_95d88_40 : decode cJ13_bitCount_95d88 40 = .ok (.lstore_n 0, 1) := by decide +kernel
theorem dJ13_bitCount_95d88_41 : decode cJ13_bitCount_95d88 41 = .ok (.lload_n 0, 1) := by decide +kernel
theorem dJ13_bitCount_95d88_42 : decode cJ13_bitCount_95d88 42 = .ok (.lload_n 0, 1) := by decide +kernel
theorem dJ13_bitCount_95d88_43 : decode cJ13_bitCount_95d88 43 = .ok (.bipush 16, 2) := by decide +kernel
theorem dJ13_bitCount_95d88_45 : decode cJ13_bitCount_95d88 45 = .ok (.lushr, 1) := by decide +kernel
theorem dJ13_bitCount_95d88_46 : decode cJ13_bitCount_95d88 46 = .ok (.ladd, 1) := by decide +kernel
theorem dJ13_bitCount_95d88_47 : decode cJ13_bitCount_95d88 47 = .ok (.lstore_n 0, 1) := by decide +kernel
theorem dJ13_bitCount_95d88_48 : decode cJ13_bitCount_95d88 48 = .ok (.lload_n 0, 1) := by decide +kernel
theorem dJ13_bitCount_95d88_49 : decode cJ13_bitCount_95d88 49 = .ok (.lload_n 0, 1) := by decide +kernel
theorem dJ13_bitCount_95d88_50 : decode cJ13_bitCount_95d88 50 = .ok (.bipush 32, 2) := by decide +kernel
theorem dJ13_bitCount_95d88_52 : decode cJ13_bitCount_95d88 52 = .ok (.lushr, 1) := by decide +kernel
theorem dJ13_bitCount_95d88_53 : decode cJ13_bitCount_95d88 53 = .ok (.ladd, 1) := by decide +kernel
theorem dJ13_bitCount_95d88_54 : decode cJ13_bitCount_95d88 54 = .ok (.lstore_n 0, 1) := by decide +kernel
theorem dJ13_bitCount_95d88_55 : decode cJ13_bitCount_95d88 55 = .ok (.lload_n 0, 1) := by decide +kernel
theorem dJ13_bitCount_95d88_56 : decode cJ13_bitCount_95d88 56 = .ok (.l2i, 1) := by decide +kernel
theorem dJ13_bitCount_95d88_57 : decode cJ13_bitCount_95d88 57 = .ok (.bipush 127, 2) := by decide +kernel
theorem dJ13_bitCount_95d88_59 : decode cJ13_bitCount_95d88 59 = .ok (.iand, 1) := by decide +kernel
theorem dJ13_bitCount_95d88_60 : decode cJ13_bitCount_95d88 60 = .ok (.ireturn, 1) := by decide +kernel
theorem dJ9_floorDiv_7cf53_0 : decode cJ9_floorDiv_7cf53 0 = .ok (.iload_n 0, 1) := by decide +kernel
theorem dJ9_floorDiv_7cf53_1 : decode cJ9_floorDiv_7cf53 1 = .ok (.iload_n 1, 1) := by decide +kernel
theorem dJ9_floorDiv_7cf53_2 : decode cJ9_floorDiv_7cf53 2 = .ok (.idiv, 1) := by decide +kernel
theorem dJ9_floorDiv_7cf53_3 : decode cJ9_floorDiv_7cf53 3 = .ok (.istore_n 2, 1) := by decide +kernel
theorem dJ9_floorDiv_7cf53_4 : decode cJ9_floorDiv_7cf53 4 = .ok (.iload_n 0, 1) := by decide +kernel
theorem dJ9_floorDiv_7cf53_5 : decode cJ9_floorDiv_7cf53 5 = .ok (.iload_n 1, 1) := by decide +kernel
theorem dJ9_floorDiv_7cf53_6 : decode cJ9_floorDiv_7cf53 6 = .ok (.ixor, 1) := by decide +kernel
theorem dJ9_floorDiv_7cf53_7 : decode cJ9_floorDiv_7cf53 7 = .ok (.ifCond .ge 14, 3) := by decide +kernel
theorem dJ9_floorDiv_7cf53_10 : decode cJ9_floorDiv_7cf53 10 = .ok (.iload_n 2, 1) := by decide +kernel
theorem dJ9_floorDiv_7cf53_11 : decode cJ9_floorDiv_7cf53 11 = .ok (.iload_n 1, 1) := by decide +kernel
theorem dJ9_floorDiv_7cf53_12 : decode cJ9_floorDiv_7cf53 12 = .ok (.imul, 1) := by decide +kernel
theorem dJ9_floorDiv_7cf53_13 : decode cJ9_floorDiv_7cf53 13 = .ok (.iload_n 0, 1) := by decide +kernel
theorem dJ9_floorDiv_7cf53_14 : decode cJ9_floorDiv_7cf53 14 = .ok (.if_icmp .eq 7, 3) := by decide +kernel
theorem dJ9_floorDiv_7cf53_17 : decode cJ9_floorDiv_7cf53 17 = .ok (.iload_n 2, 1) := by decide +kernel
theorem dJ9_floorDiv_7cf53_18 : decode cJ9_floorDiv_7cf53 18 = .ok (.iconst 1, 1) := by decide +kernel
theorem dJ9_floorDiv_7cf53_19 : decode cJ9_floorDiv_7cf53 19 = .ok (.isub, 1) := by decide +kernel
theorem dJ9_floorDiv_7cf53_20 : decode cJ9_floorDiv_7cf53 20 = .ok (.ireturn, 1) := by decide +kernel
theorem dJ9_floorDiv_7cf53_21 : decode cJ9_floorDiv_7cf53 21 = .ok (.iload_n 2, 1) := by decide +kernel
theorem dJ9_floorDiv_7cf53_22 : decode cJ9_floorDiv_7cf53 22 = .ok (.ireturn, 1) := by decide +kernel
theorem dJ9_floorMod_7cf53_0 : decode cJ9_floorMod_7cf53 0 = .ok (.iload_n 0, 1) := by decide +kernel
theorem dJ9_floorMod_7cf53_1 : decode cJ9_floorMod_7cf53 1 = .ok (.iload_n 1, 1) := by decide +kernel
theorem dJ9_floorMod_7cf53_2 : decode cJ9_floorMod_7cf53 2 = .ok (.irem, 1) := by decide +kernel
theorem dJ9_floorMod_7cf53_3 : decode cJ9_floorMod_7cf53 3 = .ok (.istore_n 2, 1) := by decide +kernel
theorem dJ9_floorMod_7cf53_4 : decode cJ9_floorMod_7cf53 4 = .ok (.iload_n 0, 1) := by decide +kernel
theorem dJ9_floorMod_7cf53_5 : decode cJ9_floorMod_7cf53 5 = .ok (.iload_n 1, 1) := by decide +kernel
theorem dJ9_floorMod_7cf53_6 : decode cJ9_floorMod_7cf53 6 = .ok (.ixor, 1) := by decide +kernel
theorem dJ9_floorMod_7cf53_7 : decode cJ9_floorMod_7cf53 7 = .ok (.ifCond .ge 11, 3) := by decide +kernel
theorem dJ9_floorMod_7cf53_10 : decode cJ9_floorMod_7cf53 10 = .ok (.iload_n 2, 1) := by decide +kernel
theorem dJ9_floorMod_7cf53_11 : decode cJ9_floorMod_7cf53 11 = .ok (.ifCond .eq 7, 3) := by decide +kernel
theorem dJ9_floorMod_7cf53_14 : decode cJ9_floorMod_7cf53 14 = .ok (.iload_n 2, 1) := by decide +kernel
theorem dJ9_floorMod_7cf53_15 : decode cJ9_floorMod_7cf53 15 = .ok (.iload_n 1, 1) := by decide +kernel
theorem dJ9_floorMod_7cf53_16 : decode cJ9_floorMod_7cf53 16 = .ok (.iadd, 1) := by decide +kernel
theorem dJ9_floorMod_7cf53_17 : decode cJ9_floorMod_7cf53 17 = .ok (.ireturn, 1) := by decide +kernel
theorem dJ9_floorMod_7cf53_18 : decode cJ9_floorMod_7cf53 18 = .ok (.iload_n 2, 1) := by decide +kernel
theorem dJ9_floorMod_7cf53_19 : decode cJ9_floorMod_7cf53 19 = .ok (.ireturn, 1) := by decide +kernel
theorem dJ9_abs_0f7a4_0 : decode cJ9_abs_0f7a4 0 = .ok (.iload_n 0, 1) := by decide +kernel
theorem dJ9_abs_0f7a4_1 : decode cJ9_abs_0f7a4 1 = .ok (.ifCond .ge 8, 3) := by decide +kernel
theorem dJ9_abs_0f7a4_4 : decode cJ9_abs_0f7a4 4 = .ok (.iload_n 0, 1) := by decide +kernel
theorem dJ9_abs_0f7a4_5 : decode cJ9_abs_0f7a4 5 = .ok (.ineg, 1) := by decide +kernel
theorem dJ9_abs_0f7a4_6 : decode cJ9_abs_0f7a4 6 = .ok (.goto 4, 3) := by decide +kernel
theorem dJ9_abs_0f7a4_9 : decode cJ9_abs_0f7a4 9 = .ok (.iload_n 0, 1) := by decide +kernel
theorem dJ9_abs_0f7a4_10 : decode cJ9_abs_0f7a4 10 = .ok (.ireturn, 1) := by decide +kernel
theorem dJ9_abs_067f4_0 : decode cJ9_abs_067f4 0 = .ok (.lload_n 0, 1) := by decide +kernel
theorem dJ9_abs_067f4_1 : decode cJ9_abs_067f4 1 = .ok (.lconst 0, 1) := by decide +kernel
theorem dJ9_abs_067f4_2 : decode cJ9_abs_067f4 2 = .ok (.lcmp, 1) := by decide +kernel
theorem dJ9_abs_067f4_3 : decode cJ9_abs_067f4 3 = .ok (.ifCond .ge 8, 3) := by decide +kernel
theorem dJ9_abs_067f4_6 : decode cJ9_abs_067f4 6 = .ok (.lload_n 0, 1) := by decide +kernel
theorem dJ9_abs_067f4_7 : decode cJ9_abs_067f4 7 = .ok (.lneg, 1) := by decide +kernel
theorem dJ9_abs_067f4_8 : decode cJ9_abs_067f4 8 = .ok (.goto 4, 3) := by decide +kernel
theorem dJ9_abs_067f4_11 : decode cJ9_abs_067f4 11 = .ok (.lload_n 0, 1) := by decide +kernel
theorem dJ9_abs_067f4_12 : decode cJ9_abs_067f4 12 = .ok (.lreturn, 1) := by decide +kernel
theorem dJ9_min_7cf53_0 : decode cJ9_min_7cf53 0 = .ok (.iload_n 0, 1) := by decide +kernel
theorem dJ9_min_7cf53_1 : decode cJ9_min_7cf53 1 = .ok (.iload_n 1, 1) := by decide +kernel
theorem dJ9_min_7cf53_2 : decode cJ9_min_7cf53 2 = .ok (.if_icmp .gt 7, 3) := by decide +kernel
theorem dJ9_min_7cf53_5 : decode cJ9_min_7cf53 5 = .ok (.iload_n 0, 1) := by decide +kernel
theorem dJ9_min_7cf53_6 : decode cJ9_min_7cf53 6 = .ok (.goto 4, 3) := by decide +kernel
theorem dJ9_min_7cf53_9 : decode cJ9_min_7cf53 9 = .ok (.iload_n 1, 1) := by decide +kernel
theorem dJ9_min_7cf53_10 : decode cJ9_min_7cf53 10 = .ok (.ireturn, 1) := by decide +kernel
