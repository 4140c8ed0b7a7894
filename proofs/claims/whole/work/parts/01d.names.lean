theorem dX6_isIn_47 : decode cX6_isIn 47 = .ok (.iconst 3, 1) := by decide +kernel
theorem dX6_isIn_48 : decode cX6_isIn 48 = .ok (.iload_n 1, 1) := by decide +kernel
theorem dX6_isIn_49 : decode cX6_isIn 49 = .ok (.imul, 1) := by decide +kernel
theorem dX6_isIn_50 : decode cX6_isIn 50 = .ok (.iload 4, 2) := by decide +kernel
theorem dX6_isIn_52 : decode cX6_isIn 52 = .ok (.iadd, 1) := by decide +kernel
theorem dX6_isIn_53 : decode cX6_isIn 53 = .ok (.iaload, 1) := by decide +kernel
theorem dX6_isIn_54 : decode cX6_isIn 54 = .ok (.iconst 1, 1) := by decide +kernel
theorem dX6_isIn_55 : decode cX6_isIn 55 = .ok (.iadd, 1) := by decide +kernel
theorem dX6_isIn_56 : decode cX6_isIn 56 = .ok (.if_icmp .ne 7, 3) := by decide +kernel
theorem dX6_isIn_59 : decode cX6_isIn 59 = .ok (.iconst 1, 1) := by decide +kernel
theorem dX6_isIn_60 : decode cX6_isIn 60 = .ok (.goto 4, 3) := by decide +kernel
theorem dX6_isIn_63 : decode cX6_isIn 63 = .ok (.iconst 0, 1) := by decide +kernel
theorem dX6_isIn_64 : decode cX6_isIn 64 = .ok (.istore_n 3, 1) := by decide +kernel
theorem dX6_isIn_65 : decode cX6_isIn 65 = .ok (.iinc 4 1, 3) := by decide +kernel
theorem dX6_isIn_68 : decode cX6_isIn 68 = .ok (.goto (-50), 3) := by decide +kernel
theorem dX6_isIn_71 : decode cX6_isIn 71 = .ok (.iload_n 3, 1) := by decide +kernel
theorem dX6_isIn_72 : decode cX6_isIn 72 = .ok (.ireturn, 1) := by decide +kernel
set_option maxRecDepth 20000 in
theorem ggX6_hasRow_X6_isIn : GoodIn wsX6_hasRow wsX6_isIn := goodIn_r _ [8, 9, 10, 11, 12, 7, 13, 14, 15, 16, 17, 18, 19, 20, 21, 22, 23, 24, 25, 26, 27, 28, 29, 30, 31, 32] (by decide +kernel) (by decide +kernel)
set_option maxRecDepth 20000 in
theorem gX6_hasRow_X6_isIn : GoodIn wsX6_hasRow (wsV RX6 69 RX6 yX6_isIn wsX6_isIn) := goodIn_app (goodIn_of _ (by decide +kernel)) ggX6_hasRow_X6_isIn
theorem dX6_hasRow_0 : decode cX6_hasRow 0 = .ok (.iconst 0, 1) := by decide +kernel
theorem dX6_hasRow_1 : decode cX6_hasRow 1 = .ok (.istore 4, 2) := by decide +kernel
theorem dX6_hasRow_3 : decode cX6_hasRow 3 = .ok (.iload 4, 2) := by decide +kernel
theorem dX6_hasRow_5 : decode cX6_hasRow 5 = .ok (.aload_n 0, 1) := by decide +kernel
theorem dX6_hasRow_6 : decode cX6_hasRow 6 = .ok (.getfield 54, 3) := by decide +kernel
theorem dX6_hasRow_9 : decode cX6_hasRow 9 = .ok (.if_icmp .ge 43, 3) := by decide +kernel
theorem dX6_hasRow_12 : decode cX6_hasRow 12 = .ok (.aload_n 0, 1) := by decide +kernel
theorem dX6_hasRow_13 : decode cX6_hasRow 13 = .ok (.iload 4, 2) := by decide +kernel
theorem dX6_hasRow_15 : decode cX6_hasRow 15 = .ok (.iload_n 1, 1) := by decide +kernel
theorem dX6_hasRow_16 : decode cX6_hasRow 16 = .ok (.invokevirtual 69, 3) := by decide +kernel
theorem dX6_hasRow_19 : decode cX6_hasRow 19 = .ok (.ifCond .eq 27, 3) := by decide +kernel
theorem dX6_hasRow_22 : decode cX6_hasRow 22 = .ok (.aload_n 0, 1) := by decide +kernel
theorem dX6_hasRow_23 : decode cX6_hasRow 23 = .ok (.getfield 7, 3) := by decide +kernel
theorem dX6_hasRow_26 : decode cX6_hasRow 26 = .ok (.iload 4, 2) := by decide +kernel
theorem dX6_hasRow_28 : decode cX6_hasRow 28 = .ok (.iaload, 1) := by decide +kernel
theorem dX6_hasRow_29 : decode cX6_hasRow 29 = .ok (.iload_n 2, 1) := by decide +kernel
theorem dX6_hasRow_30 : decode cX6_hasRow 30 = .ok (.if_icmp .ne 16, 3) := by decide +kernel
theorem dX6_hasRow_33 : decode cX6_hasRow 33 = .ok (.aload_n 0, 1) := by decide +kernel
theorem dX6_hasRow_34 : decode cX6_hasRow 34 = .ok (.getfield 22, 3) := by decide +kernel
theorem dX6_hasRow_37 : decode cX6_hasRow 37 = .ok (.iload 4, 2) := by decide +kernel
theorem dX6_hasRow_39 : decode cX6_hasRow 39 = .ok (.iaload, 1) := by decide +kernel
theorem dX6_hasRow_40 : decode cX6_hasRow 40 = .ok (.iload_n 3, 1) := by decide +kernel
theorem dX6_hasRow_41 : decode cX6_hasRow 41 = .ok (.if_icmp .ne 5, 3) := by decide +kernel
theorem dX6_hasRow_44 : decode cX6_hasRow 44 = .ok (.iconst 1, 1) := by decide +kernel
theorem dX6_hasRow_45 : decode cX6_hasRow 45 = .ok (.ireturn, 1) := by decide +kernel
theorem dX6_hasRow_46 : decode cX6_hasRow 46 = .ok (.iinc 4 1, 3) := by decide +kernel
theorem dX6_hasRow_49 : decode cX6_hasRow 49 = .ok (.goto (-46), 3) := by decide +kernel
theorem dX6_hasRow_52 : decode cX6_hasRow 52 = .ok (.iconst 0, 1) := by decide +kernel
theorem dX6_hasRow_53 : decode cX6_hasRow 53 = .ok (.ireturn, 1) := by decide +kernel
set_option maxRecDepth 20000 in
theorem ggX6_measured_X6_isIn : GoodIn wsX6_measured wsX6_isIn := goodIn_r _ [9, 10, 11, 12, 13, 8, 14, 20, 21, 22, 23, 24, 25, 26, 27, 28, 29, 30, 31, 32, 33, 34, 35, 36, 37, 38] (by decide +kernel) (by decide +kernel)
set_option maxRecDepth 20000 in
theorem gX6_measured_X6_isIn : GoodIn wsX6_measured (wsV RX6 69 RX6 yX6_isIn wsX6_isIn) := goodIn_app (goodIn_of _ (by decide +kernel)) ggX6_measured_X6_isIn
set_option maxRecDepth 20000 in
theorem ggX6_measured_X6_hasRow : GoodIn wsX6_measured wsX6_hasRow := goodIn_r _ [18, 1, 2, 19, 5, 6, 7, 8, 9, 10, 11, 12, 13, 14, 20, 21, 22, 23, 24, 25, 26, 27, 28, 29, 30, 31, 32, 33, 34, 35, 36, 37, 38] (by decide +kernel) (by decide +kernel)
set_option maxRecDepth 20000 in
theorem gX6_measured_X6_hasRow : GoodIn wsX6_measured (wsV RX6 73 RX6 yX6_hasRow wsX6_hasRow) := goodIn_app (goodIn_of _ (by decide +kernel)) ggX6_measured_X6_hasRow
theorem dX6_measured_0 : decode cX6_measured 0 = .ok (.iconst 0, 1) := by decide +kernel
theorem dX6_measured_1 : decode cX6_measured 1 = .ok (.istore 4, 2) := by decide +kernel
theorem dX6_measured_3 : decode cX6_measured 3 = .ok (.iconst 0, 1) := by decide +kernel
theorem dX6_measured_4 : decode cX6_measured 4 = .ok (.istore 5, 2) := by decide +kernel
theorem dX6_measured_6 : decode cX6_measured 6 = .ok (.iload 5, 2) := by decide +kernel
theorem dX6_measured_8 : decode cX6_measured 8 = .ok (.aload_n 0, 1) := by decide +kernel
theorem dX6_measured_9 : decode cX6_measured 9 = .ok (.getfield 54, 3) := by decide +kernel
theorem dX6_measured_12 : decode cX6_measured 12 = .ok (.if_icmp .ge 86, 3) := by decide +kernel
theorem dX6_measured_15 : decode cX6_measured 15 = .ok (.iload_n 3, 1) := by decide +kernel
theorem dX6_measured_16 : decode cX6_measured 16 = .ok (.iconst 3, 1) := by decide +kernel
theorem dX6_measured_17 : decode cX6_measured 17 = .ok (.if_icmp .ge 81, 3) := by decide +kernel
theorem dX6_measured_20 : decode cX6_measured 20 = .ok (.aload_n 0, 1) := by decide +kernel
theorem dX6_measured_21 : decode cX6_measured 21 = .ok (.iload 5, 2) := by decide +kernel
theorem dX6_measured_23 : decode cX6_measured 23 = .ok (.iload_n 1, 1) := by decide +kernel
theorem dX6_measured_24 : decode cX6_measured 24 = .ok (.invokevirtual 69, 3) := by decide +kernel
theorem dX6_measured_27 : decode cX6_measured 27 = .ok (.ifCond .eq 18, 3) := by decide +kernel
theorem dX6_measured_30 : decode cX6_measured 30 = .ok (.aload_n 0, 1) := by decide +kernel
theorem dX6_measured_31 : decode cX6_measured 31 = .ok (.getfield 7, 3) := by decide +kernel
theorem dX6_measured_34 : decode cX6_measured 34 = .ok (.iload 5, 2) := by decide +kernel
theorem dX6_measured_36 : decode cX6_measured 36 = .ok (.iaload, 1) := by decide +kernel
theorem dX6_measured_37 : decode cX6_measured 37 = .ok (.iload_n 2, 1) := by decide +kernel
theorem dX6_measured_38 : decode cX6_measured 38 = .ok (.if_icmp .ne 7, 3) := by decide +kernel
theorem dX6_measured_41 : decode cX6_measured 41 = .ok (.iconst 1, 1) := by decide +kernel
theorem dX6_measured_42 : decode cX6_measured 42 = .ok (.goto 4, 3) := by decide +kernel
theorem dX6_measured_45 : decode cX6_measured 45 = .ok (.iconst 0, 1) := by decide +kernel
theorem dX6_measured_46 : decode cX6_measured 46 = .ok (.istore 6, 2) := by decide +kernel
theorem dX6_measured_48 : decode cX6_measured 48 = .ok (.iload 4, 2) := by decide +kernel
theorem dX6_measured_50 : decode cX6_measured 50 = .ok (.iload 6, 2) := by decide +kernel
theorem dX6_measured_52 : decode cX6_measured 52 = .ok (.ifCond .ne 7, 3) := by decide +kernel
theorem dX6_measured_55 : decode cX6_measured 55 = .ok (.iconst 0, 1) := by decide +kernel
theorem dX6_measured_56 : decode cX6_measured 56 = .ok (.goto 33, 3) := by decide +kernel
theorem dX6_measured_59 : decode cX6_measured 59 = .ok (.iload_n 3, 1) := by decide +kernel
theorem dX6_measured_60 : decode cX6_measured 60 = .ok (.ifCond .ne 13, 3) := by decide +kernel
theorem dX6_measured_63 : decode cX6_measured 63 = .ok (.aload_n 0, 1) := by decide +kernel
theorem dX6_measured_64 : decode cX6_measured 64 = .ok (.getfield 16, 3) := by decide +kernel
theorem dX6_measured_67 : decode cX6_measured 67 = .ok (.iload 5, 2) := by decide +kernel
theorem dX6_measured_69 : decode cX6_measured 69 = .ok (.iaload, 1) := by decide +kernel
theorem dX6_measured_70 : decode cX6_measured 70 = .ok (.goto 19, 3) := by decide +kernel
theorem dX6_measured_73 : decode cX6_measured 73 = .ok (.iload_n 3, 1) := by decide +kernel
theorem dX6_measured_74 : decode cX6_measured 74 = .ok (.iconst 1, 1) := by decide +kernel
theorem dX6_measured_75 : decode cX6_measured 75 = .ok (.if_icmp .ne 7, 3) := by decide +kernel
theorem dX6_measured_78 : decode cX6_measured 78 = .ok (.iconst 1, 1) := by decide +kernel
theorem dX6_measured_79 : decode cX6_measured 79 = .ok (.goto 10, 3) := by decide +kernel
theorem dX6_measured_82 : decode cX6_measured 82 = .ok (.aload_n 0, 1) := by decide +kernel
theorem dX6_measured_83 : decode cX6_measured 83 = .ok (.getfield 19, 3) := by decide +kernel
theorem dX6_measured_86 : decode cX6_measured 86 = .ok (.iload 5, 2) := by decide +kernel
theorem dX6_measured_88 : decode cX6_measured 88 = .ok (.iaload, 1) := by decide +kernel
theorem dX6_measured_89 : decode cX6_measured 89 = .ok (.iadd, 1) := by decide +kernel
theorem dX6_measured_90 : decode cX6_measured 90 = .ok (.istore 4, 2) := by decide +kernel
theorem dX6_measured_92 : decode cX6_measured 92 = .ok (.iinc 5 1, 3) := by decide +kernel
theorem dX6_measured_95 : decode cX6_measured 95 = .ok (.goto (-89), 3) := by decide +kernel
theorem dX6_measured_98 : decode cX6_measured 98 = .ok (.iconst 0, 1) := by decide +kernel
theorem dX6_measured_99 : decode cX6_measured 99 = .ok (.istore 5, 2) := by decide +kernel
theorem dX6_measured_101 : decode cX6_measured 101 = .ok (.iload 5, 2) := by decide +kernel
theorem dX6_measured_103 : decode cX6_measured 103 = .ok (.bipush 64, 2) := by decide +kernel
theorem dX6_measured_105 : decode cX6_measured 105 = .ok (.if_icmp .ge 35, 3) := by decide +kernel
theorem dX6_measured_108 : decode cX6_measured 108 = .ok (.iload_n 3, 1) := by decide +kernel
theorem dX6_measured_109 : decode cX6_measured 109 = .ok (.iconst 3, 1) := by decide +kernel
theorem dX6_measured_110 : decode cX6_measured 110 = .ok (.if_icmp .ne 30, 3) := by decide +kernel
theorem dX6_measured_113 : decode cX6_measured 113 = .ok (.iload 4, 2) := by decide +kernel
theorem dX6_measured_115 : decode cX6_measured 115 = .ok (.aload_n 0, 1) := by decide +kernel
theorem dX6_measured_116 : decode cX6_measured 116 = .ok (.iload_n 1, 1) := by decide +kernel
theorem dX6_measured_117 : decode cX6_measured 117 = .ok (.iload_n 2, 1) := by decide +kernel
theorem dX6_measured_118 : decode cX6_measured 118 = .ok (.iload 5, 2) := by decide +kernel
theorem dX6_measured_120 : decode cX6_measured 120 = .ok (.invokevirtual 73, 3) := by decide +kernel
theorem dX6_measured_123 : decode cX6_measured 123 = .ok (.ifCond .eq 7, 3) := by decide +kernel
theorem dX6_measured_126 : decode cX6_measured 126 = .ok (.iconst 1, 1) := by decide +kernel
theorem dX6_measured_127 : decode cX6_measured 127 = .ok (.goto 4, 3) := by decide +kernel
theorem dX6_measured_130 : decode cX6_measured 130 = .ok (.iconst 0, 1) := by decide +kernel
theorem dX6_measured_131 : decode cX6_measured 131 = .ok (.iadd, 1) := by decide +kernel
theorem dX6_measured_132 : decode cX6_measured 132 = .ok (.istore 4, 2) := by decide +kernel
theorem dX6_measured_134 : decode cX6_measured 134 = .ok (.iinc 5 1, 3) := by decide +kernel
theorem dX6_measured_137 : decode cX6_measured 137 = .ok (.goto (-36), 3) := by decide +kernel
theorem dX6_measured_140 : decode cX6_measured 140 = .ok (.iload 4, 2) := by decide +kernel
theorem dX6_measured_142 : decode cX6_measured 142 = .ok (.ireturn, 1) := by decide +kernel
set_option maxRecDepth 20000 in
theorem ggX6_changed_X6_measured : GoodIn wsX6_changed wsX6_measured := goodIn_r _ [5, 6, 7, 8, 9, 10, 11, 12, 4, 13, 14, 15, 16, 17, 18, 19, 20, 21, 22, 23, 24, 25, 26, 27, 28, 29, 30, 31, 32, 33, 34, 35, 36, 37, 38, 39, 40, 41, 42] (by decide +kernel) (by decide +kernel)
set_option maxRecDepth 20000 in
theorem gX6_changed_X6_measured : GoodIn wsX6_changed (wsV RX6 76 RX6 yX6_measured wsX6_measured) := goodIn_app (goodIn_of _ (by decide +kernel)) ggX6_changed_X6_measured
theorem dX6_changed_0 : decode cX6_changed 0 = .ok (.aload_n 0, 1) := by decide +kernel
theorem dX6_changed_1 : decode cX6_changed 1 = .ok (.iload_n 1, 1) := by decide +kernel
theorem dX6_changed_2 : decode cX6_changed 2 = .ok (.iconst 1, 1) := by decide +kernel
theorem dX6_changed_3 : decode cX6_changed 3 = .ok (.iload_n 2, 1) := by decide +kernel
theorem dX6_changed_4 : decode cX6_changed 4 = .ok (.invokevirtual 76, 3) := by decide +kernel
theorem dX6_changed_7 : decode cX6_changed 7 = .ok (.aload_n 0, 1) := by decide +kernel
theorem dX6_changed_8 : decode cX6_changed 8 = .ok (.iload_n 1, 1) := by decide +kernel
theorem dX6_changed_9 : decode cX6_changed 9 = .ok (.iconst 0, 1) := by decide +kernel
theorem dX6_changed_10 : decode cX6_changed 10 = .ok (.iload_n 2, 1) := by decide +kernel
theorem dX6_changed_11 : decode cX6_changed 11 = .ok (.invokevirtual 76, 3) := by decide +kernel
theorem dX6_changed_14 : decode cX6_changed 14 = .ok (.isub, 1) := by decide +kernel
theorem dX6_changed_15 : decode cX6_changed 15 = .ok (.ireturn, 1) := by decide +kernel
set_option maxRecDepth 20000 in
theorem ggX6_sum_X6_isHeap : GoodIn wsX6_sum wsX6_isHeap := goodIn_r _ [5, 6, 7, 4, 8] (by decide +kernel) (by decide +kernel)
set_option maxRecDepth 20000 in
theorem gX6_sum_X6_isHeap : GoodIn wsX6_sum (va_wsS RX6 80 yX6_isHeap wsX6_isHeap) := goodIn_app (goodIn_of _ (by decide +kernel)) ggX6_sum_X6_isHeap
set_option maxRecDepth 20000 in
theorem ggX6_sum_X6_in : GoodIn wsX6_sum wsX6_in := goodIn_r _ [8] (by decide +kernel) (by decide +kernel)
set_option maxRecDepth 20000 in
theorem gX6_sum_X6_in : GoodIn wsX6_sum (va_wsS RX6 57 yX6_in wsX6_in) := goodIn_app (goodIn_of _ (by decide +kernel)) ggX6_sum_X6_in
set_option maxRecDepth 20000 in
theorem ggX6_sum_X6_measured : GoodIn wsX6_sum wsX6_measured := goodIn_r _ [12, 13, 14, 15, 16, 17, 18, 19, 4, 20, 21, 22, 23, 24, 25, 26, 27, 28, 29, 30, 31, 32, 33, 34, 35, 36, 37, 38, 39, 40, 41, 42, 43, 44, 45, 46, 47, 48, 49] (by decide +kernel) (by decide +kernel)
set_option maxRecDepth 20000 in
theorem gX6_sum_X6_measured : GoodIn wsX6_sum (wsV RX6 76 RX6 yX6_measured wsX6_measured) := goodIn_app (goodIn_of _ (by decide +kernel)) ggX6_sum_X6_measured
theorem dX6_sum_0 : decode cX6_sum 0 = .ok (.iload_n 1, 1) := by decide +kernel
theorem dX6_sum_1 : decode cX6_sum 1 = .ok (.invokestatic 80, 3) := by decide +kernel
theorem dX6_sum_4 : decode cX6_sum 4 = .ok (.ifCond .eq 31, 3) := by decide +kernel
theorem dX6_sum_7 : decode cX6_sum 7 = .ok (.iload_n 2, 1) := by decide +kernel
theorem dX6_sum_8 : decode cX6_sum 8 = .ok (.iconst 0, 1) := by decide +kernel
theorem dX6_sum_9 : decode cX6_sum 9 = .ok (.iconst 1, 1) := by decide +kernel
theorem dX6_sum_10 : decode cX6_sum 10 = .ok (.invokestatic 57, 3) := by decide +kernel
theorem dX6_sum_13 : decode cX6_sum 13 = .ok (.ifCond .eq 22, 3) := by decide +kernel
theorem dX6_sum_16 : decode cX6_sum 16 = .ok (.iload_n 3, 1) := by decide +kernel
theorem dX6_sum_17 : decode cX6_sum 17 = .ok (.iconst 0, 1) := by decide +kernel
theorem dX6_sum_18 : decode cX6_sum 18 = .ok (.iconst 3, 1) := by decide +kernel
theorem dX6_sum_19 : decode cX6_sum 19 = .ok (.invokestatic 57, 3) := by decide +kernel
theorem dX6_sum_22 : decode cX6_sum 22 = .ok (.ifCond .eq 13, 3) := by decide +kernel
theorem dX6_sum_25 : decode cX6_sum 25 = .ok (.aload_n 0, 1) := by decide +kernel
theorem dX6_sum_26 : decode cX6_sum 26 = .ok (.iload_n 1, 1) := by decide +kernel
theorem dX6_sum_27 : decode cX6_sum 27 = .ok (.iload_n 2, 1) := by decide +kernel
theorem dX6_sum_28 : decode cX6_sum 28 = .ok (.iload_n 3, 1) := by decide +kernel
theorem dX6_sum_29 : decode cX6_sum 29 = .ok (.invokevirtual 76, 3) := by decide +kernel
theorem dX6_sum_32 : decode cX6_sum 32 = .ok (.goto 5, 3) := by decide +kernel
theorem dX6_sum_35 : decode cX6_sum 35 = .ok (.ldc 83, 2) := by decide +kernel
theorem dX6_sum_37 : decode cX6_sum 37 = .ok (.ireturn, 1) := by decide +kernel
set_option maxRecDepth 20000 in
theorem ggX6_change_X6_isHeap : GoodIn wsX6_change wsX6_isHeap := goodIn_r _ [5, 6, 7, 4, 8] (by decide +kernel) (by decide +kernel)
set_option maxRecDepth 20000 in
theorem gX6_change_X6_isHeap : GoodIn wsX6_change (va_wsS RX6 80 yX6_isHeap wsX6_isHeap) := goodIn_app (goodIn_of _ (by decide +kernel)) ggX6_change_X6_isHeap
set_option maxRecDepth 20000 in
theorem ggX6_change_X6_in : GoodIn wsX6_change wsX6_in := goodIn_r _ [8] (by decide +kernel) (by decide +kernel)
set_option maxRecDepth 20000 in
theorem gX6_change_X6_in : GoodIn wsX6_change (va_wsS RX6 57 yX6_in wsX6_in) := goodIn_app (goodIn_of _ (by decide +kernel)) ggX6_change_X6_in
set_option maxRecDepth 20000 in
theorem ggX6_change_X6_changed : GoodIn wsX6_change wsX6_changed := goodIn_r _ [12, 13, 14, 15, 4, 16, 17, 18, 19, 20, 21, 22, 23, 24, 25, 26, 27, 28, 29, 30, 31, 32, 33, 34, 35, 36, 37, 38, 39, 40, 41, 42, 43, 44, 45, 46, 47, 48, 49, 50, 51, 52, 53] (by decide +kernel) (by decide +kernel)
set_option maxRecDepth 20000 in
theorem gX6_change_X6_changed : GoodIn wsX6_change (wsV RX6 84 RX6 yX6_changed wsX6_changed) := goodIn_app (goodIn_of _ (by decide +kernel)) ggX6_change_X6_changed
theorem dX6_change_0 : decode cX6_change 0 = .ok (.iload_n 1, 1) := by decide +kernel
theorem dX6_change_1 : decode cX6_change 1 = .ok (.invokestatic 80, 3) := by decide +kernel
theorem dX6_change_4 : decode cX6_change 4 = .ok (.ifCond .eq 21, 3) := by decide +kernel
theorem dX6_change_7 : decode cX6_change 7 = .ok (.iload_n 2, 1) := by decide +kernel
theorem dX6_change_8 : decode cX6_change 8 = .ok (.iconst 0, 1) := by decide +kernel
theorem dX6_change_9 : decode cX6_change 9 = .ok (.iconst 3, 1) := by decide +kernel
theorem dX6_change_10 : decode cX6_change 10 = .ok (.invokestatic 57, 3) := by decide +kernel
theorem dX6_change_13 : decode cX6_change 13 = .ok (.ifCond .eq 12, 3) := by decide +kernel
theorem dX6_change_16 : decode cX6_change 16 = .ok (.aload_n 0, 1) := by decide +kernel
theorem dX6_change_17 : decode cX6_change 17 = .ok (.iload_n 1, 1) := by decide +kernel
theorem dX6_change_18 : decode cX6_change 18 = .ok (.iload_n 2, 1) := by decide +kernel
theorem dX6_change_19 : decode cX6_change 19 = .ok (.invokevirtual 84, 3) := by decide +kernel
theorem dX6_change_22 : decode cX6_change 22 = .ok (.goto 5, 3) := by decide +kernel
theorem dX6_change_25 : decode cX6_change 25 = .ok (.ldc 83, 2) := by decide +kernel
theorem dX6_change_27 : decode cX6_change 27 = .ok (.ireturn, 1) := by decide +kernel
theorem dX6_common_0 : decode cX6_common 0 = .ok (.lload_n 0, 1) := by decide +kernel
theorem dX6_common_1 : decode cX6_common 1 = .ok (.lconst 0, 1) := by decide +kernel
theorem dX6_common_2 : decode cX6_common 2 = .ok (.lcmp, 1) := by decide +kernel
theorem dX6_common_3 : decode cX6_common 3 = .ok (.ifCond .ge 8, 3) := by decide +kernel
theorem dX6_common_6 : decode cX6_common 6 = .ok (.lload_n 0, 1) := by decide +kernel
theorem dX6_common_7 : decode cX6_common 7 = .ok (.lneg, 1) := by decide +kernel
theorem dX6_common_8 : decode cX6_common 8 = .ok (.goto 4, 3) := by decide +kernel
theorem dX6_common_11 : decode cX6_common 11 = .ok (.lload_n 0, 1) := by decide +kernel
theorem dX6_common_12 : decode cX6_common 12 = .ok (.lstore 4, 2) := by decide +kernel
theorem dX6_common_14 : decode cX6_common 14 = .ok (.lload_n 2, 1) := by decide +kernel
theorem dX6_common_15 : decode cX6_common 15 = .ok (.lconst 0, 1) := by decide +kernel
theorem dX6_common_16 : decode cX6_common 16 = .ok (.lcmp, 1) := by decide +kernel
theorem dX6_common_17 : decode cX6_common 17 = .ok (.ifCond .ge 8, 3) := by decide +kernel
theorem dX6_common_20 : decode cX6_common 20 = .ok (.lload_n 2, 1) := by decide +kernel
theorem dX6_common_21 : decode cX6_common 21 = .ok (.lneg, 1) := by decide +kernel
theorem dX6_common_22 : decode cX6_common 22 = .ok (.goto 4, 3) := by decide +kernel
theorem dX6_common_25 : decode cX6_common 25 = .ok (.lload_n 2, 1) := by decide +kernel
theorem dX6_common_26 : decode cX6_common 26 = .ok (.lstore 6, 2) := by decide +kernel
theorem dX6_common_28 : decode cX6_common 28 = .ok (.lload 6, 2) := by decide +kernel
theorem dX6_common_30 : decode cX6_common 30 = .ok (.lconst 0, 1) := by decide +kernel
theorem dX6_common_31 : decode cX6_common 31 = .ok (.lcmp, 1) := by decide +kernel
theorem dX6_common_32 : decode cX6_common 32 = .ok (.ifCond .eq 21, 3) := by decide +kernel
theorem dX6_common_35 : decode cX6_common 35 = .ok (.lload 4, 2) := by decide +kernel
theorem dX6_common_37 : decode cX6_common 37 = .ok (.lload 6, 2) := by decide +kernel
theorem dX6_common_39 : decode cX6_common 39 = .ok (.lrem, 1) := by decide +kernel
theorem dX6_common_40 : decode cX6_common 40 = .ok (.lstore 8, 2) := by decide +kernel
theorem dX6_common_42 : decode cX6_common 42 = .ok (.lload 6, 2) := by decide +kernel
theorem dX6_common_44 : decode cX6_common 44 = .ok (.lstore 4, 2) := by decide +kernel
theorem dX6_common_46 : decode cX6_common 46 = .ok (.lload 8, 2) := by decide +kernel
theorem dX6_common_48 : decode cX6_common 48 = .ok (.lstore 6, 2) := by decide +kernel
theorem dX6_common_50 : decode cX6_common 50 = .ok (.goto (-22), 3) := by decide +kernel
theorem dX6_common_53 : decode cX6_common 53 = .ok (.lload 4, 2) := by decide +kernel
theorem dX6_common_55 : decode cX6_common 55 = .ok (.lreturn, 1) := by decide +kernel
set_option maxRecDepth 20000 in
theorem ggX6_lowest_X6_common : GoodIn wsX6_lowest wsX6_common := goodIn_r _ [4] (by decide +kernel) (by decide +kernel)
set_option maxRecDepth 20000 in
theorem gX6_lowest_X6_common : GoodIn wsX6_lowest (va_wsS RX6 87 yX6_common wsX6_common) := goodIn_app (goodIn_of _ (by decide +kernel)) ggX6_lowest_X6_common
theorem dX6_lowest_0 : decode cX6_lowest 0 = .ok (.lload_n 0, 1) := by decide +kernel
theorem dX6_lowest_1 : decode cX6_lowest 1 = .ok (.lload_n 2, 1) := by decide +kernel
theorem dX6_lowest_2 : decode cX6_lowest 2 = .ok (.invokestatic 87, 3) := by decide +kernel
theorem dX6_lowest_5 : decode cX6_lowest 5 = .ok (.lstore 5, 2) := by decide +kernel
theorem dX6_lowest_7 : decode cX6_lowest 7 = .ok (.iload 4, 2) := by decide +kernel
theorem dX6_lowest_9 : decode cX6_lowest 9 = .ok (.ifCond .ne 10, 3) := by decide +kernel
theorem dX6_lowest_12 : decode cX6_lowest 12 = .ok (.lload_n 0, 1) := by decide +kernel
theorem dX6_lowest_13 : decode cX6_lowest 13 = .ok (.lload 5, 2) := by decide +kernel
theorem dX6_lowest_15 : decode cX6_lowest 15 = .ok (.ldiv, 1) := by decide +kernel
theorem dX6_lowest_16 : decode cX6_lowest 16 = .ok (.goto 7, 3) := by decide +kernel
theorem dX6_lowest_19 : decode cX6_lowest 19 = .ok (.lload_n 2, 1) := by decide +kernel
theorem dX6_lowest_20 : decode cX6_lowest 20 = .ok (.lload 5, 2) := by decide +kernel
theorem dX6_lowest_22 : decode cX6_lowest 22 = .ok (.ldiv, 1) := by decide +kernel
theorem dX6_lowest_23 : decode cX6_lowest 23 = .ok (.lreturn, 1) := by decide +kernel
set_option maxRecDepth 20000 in
theorem ggX6_rate_X6_isHeap : GoodIn wsX6_rate wsX6_isHeap := goodIn_r _ [5, 6, 7, 4, 8] (by decide +kernel) (by decide +kernel)
set_option maxRecDepth 20000 in
theorem gX6_rate_X6_isHeap : GoodIn wsX6_rate (va_wsS RX6 80 yX6_isHeap wsX6_isHeap) := goodIn_app (goodIn_of _ (by decide +kernel)) ggX6_rate_X6_isHeap
set_option maxRecDepth 20000 in
theorem ggX6_rate_X6_in : GoodIn wsX6_rate wsX6_in := goodIn_r _ [8] (by decide +kernel) (by decide +kernel)
set_option maxRecDepth 20000 in
theorem gX6_rate_X6_in : GoodIn wsX6_rate (va_wsS RX6 57 yX6_in wsX6_in) := goodIn_app (goodIn_of _ (by decide +kernel)) ggX6_rate_X6_in
set_option maxRecDepth 20000 in
theorem ggX6_rate_X6_measured : GoodIn wsX6_rate wsX6_measured := goodIn_r _ [12, 13, 14, 15, 16, 17, 18, 19, 4, 20, 21, 22, 23, 24, 25, 26, 27, 28, 29, 30, 37, 38, 39, 40, 41, 42, 43, 44, 45, 46, 47, 48, 49, 50, 51, 52, 53, 54, 55] (by decide +kernel) (by decide +kernel)
set_option maxRecDepth 20000 in
theorem gX6_rate_X6_measured : GoodIn wsX6_rate (wsV RX6 76 RX6 yX6_measured wsX6_measured) := goodIn_app (goodIn_of _ (by decide +kernel)) ggX6_rate_X6_measured
set_option maxRecDepth 20000 in
theorem ggX6_rate_X6_lowest : GoodIn wsX6_rate wsX6_lowest := goodIn_r _ [33, 34, 35, 4, 36] (by decide +kernel) (by decide +kernel)
set_option maxRecDepth 20000 in
theorem gX6_rate_X6_lowest : GoodIn wsX6_rate (va_wsS RX6 91 yX6_lowest wsX6_lowest) := goodIn_app (goodIn_of _ (by decide +kernel)) ggX6_rate_X6_lowest
theorem dX6_rate_0 : decode cX6_rate 0 = .ok (.iload_n 1, 1) := by decide +kernel
theorem dX6_rate_1 : decode cX6_rate 1 = .ok (.invokestatic 80, 3) := by decide +kernel
theorem dX6_rate_4 : decode cX6_rate 4 = .ok (.ifCond .eq 21, 3) := by decide +kernel
theorem dX6_rate_7 : decode cX6_rate 7 = .ok (.iload_n 2, 1) := by decide +kernel
theorem dX6_rate_8 : decode cX6_rate 8 = .ok (.iconst 0, 1) := by decide +kernel
theorem dX6_rate_9 : decode cX6_rate 9 = .ok (.iconst 1, 1) := by decide +kernel
theorem dX6_rate_10 : decode cX6_rate 10 = .ok (.invokestatic 57, 3) := by decide +kernel
theorem dX6_rate_13 : decode cX6_rate 13 = .ok (.ifCond .eq 12, 3) := by decide +kernel
theorem dX6_rate_16 : decode cX6_rate 16 = .ok (.iload_n 3, 1) := by decide +kernel
theorem dX6_rate_17 : decode cX6_rate 17 = .ok (.iconst 0, 1) := by decide +kernel
theorem dX6_rate_18 : decode cX6_rate 18 = .ok (.iconst 1, 1) := by decide +kernel
theorem dX6_rate_19 : decode cX6_rate 19 = .ok (.invokestatic 57, 3) := by decide +kernel
theorem dX6_rate_22 : decode cX6_rate 22 = .ok (.ifCond .ne 6, 3) := by decide +kernel
theorem dX6_rate_25 : decode cX6_rate 25 = .ok (.ldc 83, 2) := by decide +kernel
theorem dX6_rate_27 : decode cX6_rate 27 = .ok (.ireturn, 1) := by decide +kernel
theorem dX6_rate_28 : decode cX6_rate 28 = .ok (.aload_n 0, 1) := by decide +kernel
theorem dX6_rate_29 : decode cX6_rate 29 = .ok (.iload_n 1, 1) := by decide +kernel
theorem dX6_rate_30 : decode cX6_rate 30 = .ok (.iload_n 2, 1) := by decide +kernel
theorem dX6_rate_31 : decode cX6_rate 31 = .ok (.iconst 2, 1) := by decide +kernel
theorem dX6_rate_32 : decode cX6_rate 32 = .ok (.invokevirtual 76, 3) := by decide +kernel
theorem dX6_rate_35 : decode cX6_rate 35 = .ok (.istore 4, 2) := by decide +kernel
theorem dX6_rate_37 : decode cX6_rate 37 = .ok (.iload 4, 2) := by decide +kernel
theorem dX6_rate_39 : decode cX6_rate 39 = .ok (.ifCond .ne 7, 3) := by decide +kernel
theorem dX6_rate_42 : decode cX6_rate 42 = .ok (.iconst 0, 1) := by decide +kernel
theorem dX6_rate_43 : decode cX6_rate 43 = .ok (.goto 19, 3) := by decide +kernel
theorem dX6_rate_46 : decode cX6_rate 46 = .ok (.aload_n 0, 1) := by decide +kernel
theorem dX6_rate_47 : decode cX6_rate 47 = .ok (.iload_n 1, 1) := by decide +kernel
theorem dX6_rate_48 : decode cX6_rate 48 = .ok (.iload_n 2, 1) := by decide +kernel
theorem dX6_rate_49 : decode cX6_rate 49 = .ok (.iconst 0, 1) := by decide +kernel
theorem dX6_rate_50 : decode cX6_rate 50 = .ok (.invokevirtual 76, 3) := by decide +kernel
theorem dX6_rate_53 : decode cX6_rate 53 = .ok (.i2l, 1) := by decide +kernel
theorem dX6_rate_54 : decode cX6_rate 54 = .ok (.iload 4, 2) := by decide +kernel
theorem dX6_rate_56 : decode cX6_rate 56 = .ok (.i2l, 1) := by decide +kernel
theorem dX6_rate_57 : decode cX6_rate 57 = .ok (.iload_n 3, 1) := by decide +kernel
theorem dX6_rate_58 : decode cX6_rate 58 = .ok (.invokestatic 91, 3) := by decide +kernel
theorem dX6_rate_61 : decode cX6_rate 61 = .ok (.l2i, 1) := by decide +kernel
theorem dX6_rate_62 : decode cX6_rate 62 = .ok (.ireturn, 1) := by decide +kernel
set_option maxRecDepth 20000 in
theorem ggX6_shift_X6_isHeap : GoodIn wsX6_shift wsX6_isHeap := goodIn_r _ [5, 6, 7, 4, 8] (by decide +kernel) (by decide +kernel)
set_option maxRecDepth 20000 in
theorem gX6_shift_X6_isHeap : GoodIn wsX6_shift (va_wsS RX6 80 yX6_isHeap wsX6_isHeap) := goodIn_app (goodIn_of _ (by decide +kernel)) ggX6_shift_X6_isHeap
set_option maxRecDepth 20000 in
theorem ggX6_shift_X6_in : GoodIn wsX6_shift wsX6_in := goodIn_r _ [8] (by decide +kernel) (by decide +kernel)
set_option maxRecDepth 20000 in
theorem gX6_shift_X6_in : GoodIn wsX6_shift (va_wsS RX6 57 yX6_in wsX6_in) := goodIn_app (goodIn_of _ (by decide +kernel)) ggX6_shift_X6_in
set_option maxRecDepth 20000 in
theorem ggX6_shift_X6_measured : GoodIn wsX6_shift wsX6_measured := goodIn_r _ [12, 13, 14, 15, 16, 17, 18, 19, 4, 20, 21, 22, 23, 24, 25, 26, 27, 28, 29, 30, 37, 38, 39, 40, 41, 42, 43, 44, 45, 46, 47, 48, 49, 50, 51, 52, 53, 54, 55] (by decide +kernel) (by decide +kernel)
set_option maxRecDepth 20000 in
theorem gX6_shift_X6_measured : GoodIn wsX6_shift (wsV RX6 76 RX6 yX6_measured wsX6_measured) := goodIn_app (goodIn_of _ (by decide +kernel)) ggX6_shift_X6_measured
set_option maxRecDepth 20000 in
theorem ggX6_shift_X6_lowest : GoodIn wsX6_shift wsX6_lowest := goodIn_r _ [33, 34, 35, 4, 36] (by decide +kernel) (by decide +kernel)
set_option maxRecDepth 20000 in
theorem gX6_shift_X6_lowest : GoodIn wsX6_shift (va_wsS RX6 91 yX6_lowest wsX6_lowest) := goodIn_app (goodIn_of _ (by decide +kernel)) ggX6_shift_X6_lowest
theorem dX6_shift_0 : decode cX6_shift 0 = .ok (.iload_n 1, 1) := by decide +kernel
theorem dX6_shift_1 : decode cX6_shift 1 = .ok (.invokestatic 80, 3) := by decide +kernel
theorem dX6_shift_4 : decode cX6_shift 4 = .ok (.ifCond .eq 12, 3) := by decide +kernel
theorem dX6_shift_7 : decode cX6_shift 7 = .ok (.iload_n 2, 1) := by decide +kernel
theorem dX6_shift_8 : decode cX6_shift 8 = .ok (.iconst 0, 1) := by decide +kernel
theorem dX6_shift_9 : decode cX6_shift 9 = .ok (.iconst 1, 1) := by decide +kernel
theorem dX6_shift_10 : decode cX6_shift 10 = .ok (.invokestatic 57, 3) := by decide +kernel
theorem dX6_shift_13 : decode cX6_shift 13 = .ok (.ifCond .ne 7, 3) := by decide +kernel
theorem dX6_shift_16 : decode cX6_shift 16 = .ok (.ldc2_w 95, 3) := by decide +kernel
theorem dX6_shift_19 : decode cX6_shift 19 = .ok (.lreturn, 1) := by decide +kernel
theorem dX6_shift_20 : decode cX6_shift 20 = .ok (.aload_n 0, 1) := by decide +kernel
theorem dX6_shift_21 : decode cX6_shift 21 = .ok (.iload_n 1, 1) := by decide +kernel
theorem dX6_shift_22 : decode cX6_shift 22 = .ok (.iconst 0, 1) := by decide +kernel
theorem dX6_shift_23 : decode cX6_shift 23 = .ok (.iconst 2, 1) := by decide +kernel
theorem dX6_shift_24 : decode cX6_shift 24 = .ok (.invokevirtual 76, 3) := by decide +kernel
theorem dX6_shift_27 : decode cX6_shift 27 = .ok (.i2l, 1) := by decide +kernel
theorem dX6_shift_28 : decode cX6_shift 28 = .ok (.lstore_n 3, 1) := by decide +kernel
theorem dX6_shift_29 : decode cX6_shift 29 = .ok (.aload_n 0, 1) := by decide +kernel
theorem dX6_shift_30 : decode cX6_shift 30 = .ok (.iload_n 1, 1) := by decide +kernel
theorem dX6_shift_31 : decode cX6_shift 31 = .ok (.iconst 1, 1) := by decide +kernel
theorem dX6_shift_32 : decode cX6_shift 32 = .ok (.iconst 2, 1) := by decide +kernel
theorem dX6_shift_33 : decode cX6_shift 33 = .ok (.invokevirtual 76, 3) := by decide +kernel
theorem dX6_shift_36 : decode cX6_shift 36 = .ok (.i2l, 1) := by decide +kernel
theorem dX6_shift_37 : decode cX6_shift 37 = .ok (.lstore 5, 2) := by decide +kernel
theorem dX6_shift_39 : decode cX6_shift 39 = .ok (.lload_n 3, 1) := by decide +kernel
theorem dX6_shift_40 : decode cX6_shift 40 = .ok (.lconst 0, 1) := by decide +kernel
theorem dX6_shift_41 : decode cX6_shift 41 = .ok (.lcmp, 1) := by decide +kernel
theorem dX6_shift_42 : decode cX6_shift 42 = .ok (.ifCond .eq 10, 3) := by decide +kernel
theorem dX6_shift_45 : decode cX6_shift 45 = .ok (.lload 5, 2) := by decide +kernel
theorem dX6_shift_47 : decode cX6_shift 47 = .ok (.lconst 0, 1) := by decide +kernel
theorem dX6_shift_48 : decode cX6_shift 48 = .ok (.lcmp, 1) := by decide +kernel
theorem dX6_shift_49 : decode cX6_shift 49 = .ok (.ifCond .ne 7, 3) := by decide +kernel
theorem dX6_shift_52 : decode cX6_shift 52 = .ok (.ldc2_w 95, 3) := by decide +kernel
theorem dX6_shift_55 : decode cX6_shift 55 = .ok (.lreturn, 1) := by decide +kernel
theorem dX6_shift_56 : decode cX6_shift 56 = .ok (.aload_n 0, 1) := by decide +kernel
theorem dX6_shift_57 : decode cX6_shift 57 = .ok (.iload_n 1, 1) := by decide +kernel
theorem dX6_shift_58 : decode cX6_shift 58 = .ok (.iconst 1, 1) := by decide +kernel
theorem dX6_shift_59 : decode cX6_shift 59 = .ok (.iconst 0, 1) := by decide +kernel
theorem dX6_shift_60 : decode cX6_shift 60 = .ok (.invokevirtual 76, 3) := by decide +kernel
theorem dX6_shift_63 : decode cX6_shift 63 = .ok (.i2l, 1) := by decide +kernel
theorem dX6_shift_64 : decode cX6_shift 64 = .ok (.lload_n 3, 1) := by decide +kernel
theorem dX6_shift_65 : decode cX6_shift 65 = .ok (.lmul, 1) := by decide +kernel
theorem dX6_shift_66 : decode cX6_shift 66 = .ok (.aload_n 0, 1) := by decide +kernel
theorem dX6_shift_67 : decode cX6_shift 67 = .ok (.iload_n 1, 1) := by decide +kernel
theorem dX6_shift_68 : decode cX6_shift 68 = .ok (.iconst 0, 1) := by decide +kernel
theorem dX6_shift_69 : decode cX6_shift 69 = .ok (.iconst 0, 1) := by decide +kernel
theorem dX6_shift_70 : decode cX6_shift 70 = .ok (.invokevirtual 76, 3) := by decide +kernel
theorem dX6_shift_73 : decode cX6_shift 73 = .ok (.i2l, 1) := by decide +kernel
theorem dX6_shift_74 : decode cX6_shift 74 = .ok (.lload 5, 2) := by decide +kernel
theorem dX6_shift_76 : decode cX6_shift 76 = .ok (.lmul, 1) := by decide +kernel
theorem dX6_shift_77 : decode cX6_shift 77 = .ok (.lsub, 1) := by decide +kernel
theorem dX6_shift_78 : decode cX6_shift 78 = .ok (.lload_n 3, 1) := by decide +kernel
theorem dX6_shift_79 : decode cX6_shift 79 = .ok (.lload 5, 2) := by decide +kernel
theorem dX6_shift_81 : decode cX6_shift 81 = .ok (.lmul, 1) := by decide +kernel
theorem dX6_shift_82 : decode cX6_shift 82 = .ok (.iload_n 2, 1) := by decide +kernel
theorem dX6_shift_83 : decode cX6_shift 83 = .ok (.invokestatic 91, 3) := by decide +kernel
theorem dX6_shift_86 : decode cX6_shift 86 = .ok (.lreturn, 1) := by decide +kernel
set_option maxRecDepth 20000 in
theorem ggX6_part_X6_isHeap : GoodIn wsX6_part wsX6_isHeap := goodIn_r _ [6, 7, 8, 5, 9] (by decide +kernel) (by decide +kernel)
set_option maxRecDepth 20000 in
theorem gX6_part_X6_isHeap : GoodIn wsX6_part (va_wsS RX6 80 yX6_isHeap wsX6_isHeap) := goodIn_app (goodIn_of _ (by decide +kernel)) ggX6_part_X6_isHeap
set_option maxRecDepth 20000 in
theorem ggX6_part_X6_isMark : GoodIn wsX6_part wsX6_isMark := goodIn_r _ [12, 7, 8, 5, 9] (by decide +kernel) (by decide +kernel)
set_option maxRecDepth 20000 in
theorem gX6_part_X6_isMark : GoodIn wsX6_part (va_wsS RX6 97 yX6_isMark wsX6_isMark) := goodIn_app (goodIn_of _ (by decide +kernel)) ggX6_part_X6_isMark
set_option maxRecDepth 20000 in
theorem ggX6_part_X6_in : GoodIn wsX6_part wsX6_in := goodIn_r _ [9] (by decide +kernel) (by decide +kernel)
set_option maxRecDepth 20000 in
theorem gX6_part_X6_in : GoodIn wsX6_part (va_wsS RX6 57 yX6_in wsX6_in) := goodIn_app (goodIn_of _ (by decide +kernel)) ggX6_part_X6_in
set_option maxRecDepth 20000 in
theorem ggX6_part_X6_digit : GoodIn wsX6_part wsX6_digit := goodIn_r _ [15] (by decide +kernel) (by decide +kernel)
set_option maxRecDepth 20000 in
theorem gX6_part_X6_digit : GoodIn wsX6_part (va_wsS RX6 61 yX6_digit wsX6_digit) := goodIn_app (goodIn_of _ (by decide +kernel)) ggX6_part_X6_digit
set_option maxRecDepth 20000 in
theorem ggX6_part_X6_measured : GoodIn wsX6_part wsX6_measured := goodIn_r _ [19, 20, 21, 22, 23, 24, 25, 26, 5, 27, 28, 29, 13, 14, 15, 30, 31, 32, 33, 34, 44, 45, 46, 47, 48, 49, 50, 51, 52, 53, 54, 55, 56, 57, 58, 59, 60, 61, 62] (by decide +kernel) (by decide +kernel)
set_option maxRecDepth 20000 in
theorem gX6_part_X6_measured : GoodIn wsX6_part (wsV RX6 76 RX6 yX6_measured wsX6_measured) := goodIn_app (goodIn_of _ (by decide +kernel)) ggX6_part_X6_measured
set_option maxRecDepth 20000 in
theorem ggX6_part_X6_place : GoodIn wsX6_part wsX6_place := goodIn_r _ [37] (by decide +kernel) (by decide +kernel)
set_option maxRecDepth 20000 in
theorem gX6_part_X6_place : GoodIn wsX6_part (va_wsS RX6 100 yX6_place wsX6_place) := goodIn_app (goodIn_of _ (by decide +kernel)) ggX6_part_X6_place
set_option maxRecDepth 20000 in
theorem ggX6_part_X6_lowest : GoodIn wsX6_part wsX6_lowest := goodIn_r _ [40, 41, 42, 5, 43] (by decide +kernel) (by decide +kernel)
set_option maxRecDepth 20000 in
theorem gX6_part_X6_lowest : GoodIn wsX6_part (va_wsS RX6 91 yX6_lowest wsX6_lowest) := goodIn_app (goodIn_of _ (by decide +kernel)) ggX6_part_X6_lowest
theorem dX6_part_0 : decode cX6_part 0 = .ok (.iload_n 1, 1) := by decide +kernel
theorem dX6_part_1 : decode cX6_part 1 = .ok (.invokestatic 80, 3) := by decide +kernel
theorem dX6_part_4 : decode cX6_part 4 = .ok (.ifCond .eq 48, 3) := by decide +kernel
theorem dX6_part_7 : decode cX6_part 7 = .ok (.iload_n 2, 1) := by decide +kernel
theorem dX6_part_8 : decode cX6_part 8 = .ok (.invokestatic 97, 3) := by decide +kernel
theorem dX6_part_11 : decode cX6_part 11 = .ok (.ifCond .eq 41, 3) := by decide +kernel
theorem dX6_part_14 : decode cX6_part 14 = .ok (.iload_n 3, 1) := by decide +kernel
theorem dX6_part_15 : decode cX6_part 15 = .ok (.iconst 0, 1) := by decide +kernel
theorem dX6_part_16 : decode cX6_part 16 = .ok (.bipush 7, 2) := by decide +kernel
theorem dX6_part_18 : decode cX6_part 18 = .ok (.invokestatic 57, 3) := by decide +kernel
theorem dX6_part_21 : decode cX6_part 21 = .ok (.ifCond .eq 31, 3) := by decide +kernel
theorem dX6_part_24 : decode cX6_part 24 = .ok (.iload 4, 2) := by decide +kernel
theorem dX6_part_26 : decode cX6_part 26 = .ok (.iconst 0, 1) := by decide +kernel
theorem dX6_part_27 : decode cX6_part 27 = .ok (.iconst 1, 1) := by decide +kernel
theorem dX6_part_28 : decode cX6_part 28 = .ok (.invokestatic 57, 3) := by decide +kernel
theorem dX6_part_31 : decode cX6_part 31 = .ok (.ifCond .eq 21, 3) := by decide +kernel
theorem dX6_part_34 : decode cX6_part 34 = .ok (.iload 5, 2) := by decide +kernel
theorem dX6_part_36 : decode cX6_part 36 = .ok (.iconst 0, 1) := by decide +kernel
theorem dX6_part_37 : decode cX6_part 37 = .ok (.iconst 1, 1) := by decide +kernel
theorem dX6_part_38 : decode cX6_part 38 = .ok (.invokestatic 57, 3) := by decide +kernel
theorem dX6_part_41 : decode cX6_part 41 = .ok (.ifCond .eq 11, 3) := by decide +kernel
theorem dX6_part_44 : decode cX6_part 44 = .ok (.iload_n 1, 1) := by decide +kernel
theorem dX6_part_45 : decode cX6_part 45 = .ok (.iload_n 2, 1) := by decide +kernel
theorem dX6_part_46 : decode cX6_part 46 = .ok (.invokestatic 61, 3) := by decide +kernel
theorem dX6_part_49 : decode cX6_part 49 = .ok (.ifCond .eq 7, 3) := by decide +kernel
theorem dX6_part_52 : decode cX6_part 52 = .ok (.ldc2_w 95, 3) := by decide +kernel
theorem dX6_part_55 : decode cX6_part 55 = .ok (.lreturn, 1) := by decide +kernel
theorem dX6_part_56 : decode cX6_part 56 = .ok (.aload_n 0, 1) := by decide +kernel
theorem dX6_part_57 : decode cX6_part 57 = .ok (.iload_n 1, 1) := by decide +kernel
theorem dX6_part_58 : decode cX6_part 58 = .ok (.iconst 0, 1) := by decide +kernel
theorem dX6_part_59 : decode cX6_part 59 = .ok (.iconst 2, 1) := by decide +kernel
theorem dX6_part_60 : decode cX6_part 60 = .ok (.invokevirtual 76, 3) := by decide +kernel
theorem dX6_part_63 : decode cX6_part 63 = .ok (.i2l, 1) := by decide +kernel
theorem dX6_part_64 : decode cX6_part 64 = .ok (.lstore 6, 2) := by decide +kernel
theorem dX6_part_66 : decode cX6_part 66 = .ok (.aload_n 0, 1) := by decide +kernel
theorem dX6_part_67 : decode cX6_part 67 = .ok (.iload_n 1, 1) := by decide +kernel
theorem dX6_part_68 : decode cX6_part 68 = .ok (.iconst 1, 1) := by decide +kernel
theorem dX6_part_69 : decode cX6_part 69 = .ok (.iconst 2, 1) := by decide +kernel
theorem dX6_part_70 : decode cX6_part 70 = .ok (.invokevirtual 76, 3) := by decide +kernel
theorem dX6_part_73 : decode cX6_part 73 = .ok (.i2l, 1) := by decide +kernel
theorem dX6_part_74 : decode cX6_part 74 = .ok (.lstore 8, 2) := by decide +kernel
theorem dX6_part_76 : decode cX6_part 76 = .ok (.lload 6, 2) := by decide +kernel
theorem dX6_part_78 : decode cX6_part 78 = .ok (.lconst 0, 1) := by decide +kernel
theorem dX6_part_79 : decode cX6_part 79 = .ok (.lcmp, 1) := by decide +kernel
theorem dX6_part_80 : decode cX6_part 80 = .ok (.ifCond .eq 10, 3) := by decide +kernel
theorem dX6_part_83 : decode cX6_part 83 = .ok (.lload 8, 2) := by decide +kernel
theorem dX6_part_85 : decode cX6_part 85 = .ok (.lconst 0, 1) := by decide +kernel
theorem dX6_part_86 : decode cX6_part 86 = .ok (.lcmp, 1) := by decide +kernel
theorem dX6_part_87 : decode cX6_part 87 = .ok (.ifCond .ne 7, 3) := by decide +kernel
theorem dX6_part_90 : decode cX6_part 90 = .ok (.ldc2_w 95, 3) := by decide +kernel
theorem dX6_part_93 : decode cX6_part 93 = .ok (.lreturn, 1) := by decide +kernel
theorem dX6_part_94 : decode cX6_part 94 = .ok (.iload_n 1, 1) := by decide +kernel
theorem dX6_part_95 : decode cX6_part 95 = .ok (.iload_n 2, 1) := by decide +kernel
theorem dX6_part_96 : decode cX6_part 96 = .ok (.invokestatic 100, 3) := by decide +kernel
theorem dX6_part_99 : decode cX6_part 99 = .ok (.iload_n 3, 1) := by decide +kernel
theorem dX6_part_100 : decode cX6_part 100 = .ok (.iconst 1, 1) := by decide +kernel
theorem dX6_part_101 : decode cX6_part 101 = .ok (.iadd, 1) := by decide +kernel
theorem dX6_part_102 : decode cX6_part 102 = .ok (.imul, 1) := by decide +kernel
theorem dX6_part_103 : decode cX6_part 103 = .ok (.iadd, 1) := by decide +kernel
theorem dX6_part_104 : decode cX6_part 104 = .ok (.istore 10, 2) := by decide +kernel
theorem dX6_part_106 : decode cX6_part 106 = .ok (.aload_n 0, 1) := by decide +kernel
theorem dX6_part_107 : decode cX6_part 107 = .ok (.iload 10, 2) := by decide +kernel
theorem dX6_part_109 : decode cX6_part 109 = .ok (.iconst 0, 1) := by decide +kernel
theorem dX6_part_110 : decode cX6_part 110 = .ok (.iconst 0, 1) := by decide +kernel
theorem dX6_part_111 : decode cX6_part 111 = .ok (.invokevirtual 76, 3) := by decide +kernel
theorem dX6_part_114 : decode cX6_part 114 = .ok (.i2l, 1) := by decide +kernel
theorem dX6_part_115 : decode cX6_part 115 = .ok (.lstore 11, 2) := by decide +kernel
theorem dX6_part_117 : decode cX6_part 117 = .ok (.aload_n 0, 1) := by decide +kernel
theorem dX6_part_118 : decode cX6_part 118 = .ok (.iload 10, 2) := by decide +kernel
theorem dX6_part_120 : decode cX6_part 120 = .ok (.iconst 0, 1) := by decide +kernel
theorem dX6_part_121 : decode cX6_part 121 = .ok (.iconst 2, 1) := by decide +kernel
theorem dX6_part_122 : decode cX6_part 122 = .ok (.invokevirtual 76, 3) := by decide +kernel
theorem dX6_part_125 : decode cX6_part 125 = .ok (.i2l, 1) := by decide +kernel
theorem dX6_part_126 : decode cX6_part 126 = .ok (.lstore 13, 2) := by decide +kernel
theorem dX6_part_128 : decode cX6_part 128 = .ok (.aload_n 0, 1) := by decide +kernel
theorem dX6_part_129 : decode cX6_part 129 = .ok (.iload 10, 2) := by decide +kernel
theorem dX6_part_131 : decode cX6_part 131 = .ok (.iconst 1, 1) := by decide +kernel
theorem dX6_part_132 : decode cX6_part 132 = .ok (.iconst 0, 1) := by decide +kernel
theorem dX6_part_133 : decode cX6_part 133 = .ok (.invokevirtual 76, 3) := by decide +kernel
theorem dX6_part_136 : decode cX6_part 136 = .ok (.i2l, 1) := by decide +kernel
theorem dX6_part_137 : decode cX6_part 137 = .ok (.lstore 15, 2) := by decide +kernel
theorem dX6_part_139 : decode cX6_part 139 = .ok (.aload_n 0, 1) := by decide +kernel
theorem dX6_part_140 : decode cX6_part 140 = .ok (.iload 10, 2) := by decide +kernel
theorem dX6_part_142 : decode cX6_part 142 = .ok (.iconst 1, 1) := by decide +kernel
theorem dX6_part_143 : decode cX6_part 143 = .ok (.iconst 2, 1) := by decide +kernel
theorem dX6_part_144 : decode cX6_part 144 = .ok (.invokevirtual 76, 3) := by decide +kernel
theorem dX6_part_147 : decode cX6_part 147 = .ok (.i2l, 1) := by decide +kernel
theorem dX6_part_148 : decode cX6_part 148 = .ok (.lstore 17, 2) := by decide +kernel
theorem dX6_part_150 : decode cX6_part 150 = .ok (.lload 13, 2) := by decide +kernel
theorem dX6_part_152 : decode cX6_part 152 = .ok (.lconst 0, 1) := by decide +kernel
theorem dX6_part_153 : decode cX6_part 153 = .ok (.lcmp, 1) := by decide +kernel
theorem dX6_part_154 : decode cX6_part 154 = .ok (.ifCond .eq 10, 3) := by decide +kernel
theorem dX6_part_157 : decode cX6_part 157 = .ok (.lload 17, 2) := by decide +kernel
theorem dX6_part_159 : decode cX6_part 159 = .ok (.lconst 0, 1) := by decide +kernel
theorem dX6_part_160 : decode cX6_part 160 = .ok (.lcmp, 1) := by decide +kernel
theorem dX6_part_161 : decode cX6_part 161 = .ok (.ifCond .ne 40, 3) := by decide +kernel
theorem dX6_part_164 : decode cX6_part 164 = .ok (.iload 4, 2) := by decide +kernel
theorem dX6_part_166 : decode cX6_part 166 = .ok (.ifCond .ne 13, 3) := by decide +kernel
theorem dX6_part_169 : decode cX6_part 169 = .ok (.lconst 0, 1) := by decide +kernel
theorem dX6_part_170 : decode cX6_part 170 = .ok (.lconst 1, 1) := by decide +kernel
theorem dX6_part_171 : decode cX6_part 171 = .ok (.iload 5, 2) := by decide +kernel
theorem dX6_part_173 : decode cX6_part 173 = .ok (.invokestatic 91, 3) := by decide +kernel
theorem dX6_part_176 : decode cX6_part 176 = .ok (.goto 24, 3) := by decide +kernel
theorem dX6_part_179 : decode cX6_part 179 = .ok (.lload 15, 2) := by decide +kernel
theorem dX6_part_181 : decode cX6_part 181 = .ok (.lload 6, 2) := by decide +kernel
theorem dX6_part_183 : decode cX6_part 183 = .ok (.lmul, 1) := by decide +kernel
theorem dX6_part_184 : decode cX6_part 184 = .ok (.lload 11, 2) := by decide +kernel
theorem dX6_part_186 : decode cX6_part 186 = .ok (.lload 8, 2) := by decide +kernel
theorem dX6_part_188 : decode cX6_part 188 = .ok (.lmul, 1) := by decide +kernel
theorem dX6_part_189 : decode cX6_part 189 = .ok (.lsub, 1) := by decide +kernel
theorem dX6_part_190 : decode cX6_part 190 = .ok (.lload 6, 2) := by decide +kernel
theorem dX6_part_192 : decode cX6_part 192 = .ok (.lload 8, 2) := by decide +kernel
theorem dX6_part_194 : decode cX6_part 194 = .ok (.lmul, 1) := by decide +kernel
theorem dX6_part_195 : decode cX6_part 195 = .ok (.iload 5, 2) := by decide +kernel
theorem dX6_part_197 : decode cX6_part 197 = .ok (.invokestatic 91, 3) := by decide +kernel
theorem dX6_part_200 : decode cX6_part 200 = .ok (.lreturn, 1) := by decide +kernel
theorem dX6_part_201 : decode cX6_part 201 = .ok (.ldc2_w 104, 3) := by decide +kernel
theorem dX6_part_204 : decode cX6_part 204 = .ok (.lload 13, 2) := by decide +kernel
theorem dX6_part_206 : decode cX6_part 206 = .ok (.lmul, 1) := by decide +kernel
theorem dX6_part_207 : decode cX6_part 207 = .ok (.lload 17, 2) := by decide +kernel
theorem dX6_part_209 : decode cX6_part 209 = .ok (.lmul, 1) := by decide +kernel
theorem dX6_part_210 : decode cX6_part 210 = .ok (.lload 6, 2) := by decide +kernel
theorem dX6_part_212 : decode cX6_part 212 = .ok (.lmul, 1) := by decide +kernel
theorem dX6_part_213 : decode cX6_part 213 = .ok (.lload 8, 2) := by decide +kernel
theorem dX6_part_215 : decode cX6_part 215 = .ok (.lmul, 1) := by decide +kernel
theorem dX6_part_216 : decode cX6_part 216 = .ok (.lstore 19, 2) := by decide +kernel
theorem dX6_part_218 : decode cX6_part 218 = .ok (.iload 4, 2) := by decide +kernel
theorem dX6_part_220 : decode cX6_part 220 = .ok (.ifCond .ne 29, 3) := by decide +kernel
theorem dX6_part_223 : decode cX6_part 223 = .ok (.lload 15, 2) := by decide +kernel
theorem dX6_part_225 : decode cX6_part 225 = .ok (.lload 13, 2) := by decide +kernel
theorem dX6_part_227 : decode cX6_part 227 = .ok (.lmul, 1) := by decide +kernel
theorem dX6_part_228 : decode cX6_part 228 = .ok (.lload 11, 2) := by decide +kernel
theorem dX6_part_230 : decode cX6_part 230 = .ok (.lload 17, 2) := by decide +kernel
theorem dX6_part_232 : decode cX6_part 232 = .ok (.lmul, 1) := by decide +kernel
theorem dX6_part_233 : decode cX6_part 233 = .ok (.lsub, 1) := by decide +kernel
theorem dX6_part_234 : decode cX6_part 234 = .ok (.lload 13, 2) := by decide +kernel
theorem dX6_part_236 : decode cX6_part 236 = .ok (.lload 8, 2) := by decide +kernel
theorem dX6_part_238 : decode cX6_part 238 = .ok (.lmul, 1) := by decide +kernel
theorem dX6_part_239 : decode cX6_part 239 = .ok (.lload 17, 2) := by decide +kernel
theorem dX6_part_241 : decode cX6_part 241 = .ok (.lload 6, 2) := by decide +kernel
theorem dX6_part_243 : decode cX6_part 243 = .ok (.lmul, 1) := by decide +kernel
theorem dX6_part_244 : decode cX6_part 244 = .ok (.ladd, 1) := by decide +kernel
theorem dX6_part_245 : decode cX6_part 245 = .ok (.lmul, 1) := by decide +kernel
theorem dX6_part_246 : decode cX6_part 246 = .ok (.goto 26, 3) := by decide +kernel
theorem dX6_part_249 : decode cX6_part 249 = .ok (.lload 17, 2) := by decide +kernel
theorem dX6_part_251 : decode cX6_part 251 = .ok (.lload 6, 2) := by decide +kernel
theorem dX6_part_253 : decode cX6_part 253 = .ok (.lmul, 1) := by decide +kernel
theorem dX6_part_254 : decode cX6_part 254 = .ok (.lload 13, 2) := by decide +kernel
theorem dX6_part_256 : decode cX6_part 256 = .ok (.lload 8, 2) := by decide +kernel
theorem dX6_part_258 : decode cX6_part 258 = .ok (.lmul, 1) := by decide +kernel
theorem dX6_part_259 : decode cX6_part 259 = .ok (.lsub, 1) := by decide +kernel
theorem dX6_part_260 : decode cX6_part 260 = .ok (.lload 11, 2) := by decide +kernel
theorem dX6_part_262 : decode cX6_part 262 = .ok (.lload 17, 2) := by decide +kernel
theorem dX6_part_264 : decode cX6_part 264 = .ok (.lmul, 1) := by decide +kernel
theorem dX6_part_265 : decode cX6_part 265 = .ok (.lload 15, 2) := by decide +kernel
theorem dX6_part_267 : decode cX6_part 267 = .ok (.lload 13, 2) := by decide +kernel
theorem dX6_part_269 : decode cX6_part 269 = .ok (.lmul, 1) := by decide +kernel
theorem dX6_part_270 : decode cX6_part 270 = .ok (.ladd, 1) := by decide +kernel
theorem dX6_part_271 : decode cX6_part 271 = .ok (.lmul, 1) := by decide +kernel
theorem dX6_part_272 : decode cX6_part 272 = .ok (.lstore 21, 2) := by decide +kernel
theorem dX6_part_274 : decode cX6_part 274 = .ok (.lload 21, 2) := by decide +kernel
theorem dX6_part_276 : decode cX6_part 276 = .ok (.lload 19, 2) := by decide +kernel
theorem dX6_part_278 : decode cX6_part 278 = .ok (.iload 5, 2) := by decide +kernel
theorem dX6_part_280 : decode cX6_part 280 = .ok (.invokestatic 91, 3) := by decide +kernel
theorem dX6_part_283 : decode cX6_part 283 = .ok (.lreturn, 1) := by decide +kernel
theorem dX6_valuesOf_0 : decode cX6_valuesOf 0 = .ok (.iconst 0, 1) := by decide +kernel
theorem dX6_valuesOf_1 : decode cX6_valuesOf 1 = .ok (.istore 4, 2) := by decide +kernel
theorem dX6_valuesOf_3 : decode cX6_valuesOf 3 = .ok (.iconst 0, 1) := by decide +kernel
theorem dX6_valuesOf_4 : decode cX6_valuesOf 4 = .ok (.istore 5, 2) := by decide +kernel
theorem dX6_valuesOf_6 : decode cX6_valuesOf 6 = .ok (.iload 5, 2) := by decide +kernel
theorem dX6_valuesOf_8 : decode cX6_valuesOf 8 = .ok (.aload_n 0, 1) := by decide +kernel
theorem dX6_valuesOf_9 : decode cX6_valuesOf 9 = .ok (.getfield 54, 3) := by decide +kernel
theorem dX6_valuesOf_12 : decode cX6_valuesOf 12 = .ok (.if_icmp .ge 63, 3) := by decide +kernel
theorem dX6_valuesOf_15 : decode cX6_valuesOf 15 = .ok (.iload 4, 2) := by decide +kernel
theorem dX6_valuesOf_17 : decode cX6_valuesOf 17 = .ok (.aload_n 0, 1) := by decide +kernel
theorem dX6_valuesOf_18 : decode cX6_valuesOf 18 = .ok (.getfield 28, 3) := by decide +kernel
theorem dX6_valuesOf_21 : decode cX6_valuesOf 21 = .ok (.iload 5, 2) := by decide +kernel
theorem dX6_valuesOf_23 : decode cX6_valuesOf 23 = .ok (.baload, 1) := by decide +kernel
theorem dX6_valuesOf_24 : decode cX6_valuesOf 24 = .ok (.ifCond .ne 41, 3) := by decide +kernel
theorem dX6_valuesOf_27 : decode cX6_valuesOf 27 = .ok (.aload_n 0, 1) := by decide +kernel
theorem dX6_valuesOf_28 : decode cX6_valuesOf 28 = .ok (.getfield 22, 3) := by decide +kernel
theorem dX6_valuesOf_31 : decode cX6_valuesOf 31 = .ok (.iload 5, 2) := by decide +kernel
theorem dX6_valuesOf_33 : decode cX6_valuesOf 33 = .ok (.iaload, 1) := by decide +kernel
theorem dX6_valuesOf_34 : decode cX6_valuesOf 34 = .ok (.iload_n 2, 1) := by decide +kernel
theorem dX6_valuesOf_35 : decode cX6_valuesOf 35 = .ok (.if_icmp .ne 30, 3) := by decide +kernel
theorem dX6_valuesOf_38 : decode cX6_valuesOf 38 = .ok (.aload_n 0, 1) := by decide +kernel
theorem dX6_valuesOf_39 : decode cX6_valuesOf 39 = .ok (.getfield 7, 3) := by decide +kernel
theorem dX6_valuesOf_42 : decode cX6_valuesOf 42 = .ok (.iload 5, 2) := by decide +kernel
theorem dX6_valuesOf_44 : decode cX6_valuesOf 44 = .ok (.iaload, 1) := by decide +kernel
theorem dX6_valuesOf_45 : decode cX6_valuesOf 45 = .ok (.iload_n 3, 1) := by decide +kernel
theorem dX6_valuesOf_46 : decode cX6_valuesOf 46 = .ok (.if_icmp .ne 19, 3) := by decide +kernel
theorem dX6_valuesOf_49 : decode cX6_valuesOf 49 = .ok (.iconst 1, 1) := by decide +kernel
theorem dX6_valuesOf_50 : decode cX6_valuesOf 50 = .ok (.aload_n 0, 1) := by decide +kernel
theorem dX6_valuesOf_51 : decode cX6_valuesOf 51 = .ok (.getfield 25, 3) := by decide +kernel
theorem dX6_valuesOf_54 : decode cX6_valuesOf 54 = .ok (.iconst 3, 1) := by decide +kernel
theorem dX6_valuesOf_55 : decode cX6_valuesOf 55 = .ok (.iload 5, 2) := by decide +kernel
theorem dX6_valuesOf_57 : decode cX6_valuesOf 57 = .ok (.imul, 1) := by decide +kernel
theorem dX6_valuesOf_58 : decode cX6_valuesOf 58 = .ok (.iload_n 1, 1) := by decide +kernel
theorem dX6_valuesOf_59 : decode cX6_valuesOf 59 = .ok (.iadd, 1) := by decide +kernel
theorem dX6_valuesOf_60 : decode cX6_valuesOf 60 = .ok (.iaload, 1) := by decide +kernel
theorem dX6_valuesOf_61 : decode cX6_valuesOf 61 = .ok (.ishl, 1) := by decide +kernel
theorem dX6_valuesOf_62 : decode cX6_valuesOf 62 = .ok (.goto 4, 3) := by decide +kernel
theorem dX6_valuesOf_65 : decode cX6_valuesOf 65 = .ok (.iconst 0, 1) := by decide +kernel
theorem dX6_valuesOf_66 : decode cX6_valuesOf 66 = .ok (.ior, 1) := by decide +kernel
theorem dX6_valuesOf_67 : decode cX6_valuesOf 67 = .ok (.istore 4, 2) := by decide +kernel
theorem dX6_valuesOf_69 : decode cX6_valuesOf 69 = .ok (.iinc 5 1, 3) := by decide +kernel
theorem dX6_valuesOf_72 : decode cX6_valuesOf 72 = .ok (.goto (-66), 3) := by decide +kernel
theorem dX6_valuesOf_75 : decode cX6_valuesOf 75 = .ok (.iload 4, 2) := by decide +kernel
theorem dX6_valuesOf_77 : decode cX6_valuesOf 77 = .ok (.ireturn, 1) := by decide +kernel
set_option maxRecDepth 20000 in
theorem ggX6_moved_X6_valuesOf : GoodIn wsX6_moved wsX6_valuesOf := goodIn_r _ [5, 6, 7, 8, 9, 10, 11, 12, 13, 14, 15, 16, 17, 18, 19, 20, 21, 22, 23, 24, 25, 26, 27, 28, 29] (by decide +kernel) (by decide +kernel)
set_option maxRecDepth 20000 in
theorem gX6_moved_X6_valuesOf : GoodIn wsX6_moved (wsV RX6 106 RX6 yX6_valuesOf wsX6_valuesOf) := goodIn_app (goodIn_of _ (by decide +kernel)) ggX6_moved_X6_valuesOf
theorem dX6_moved_0 : decode cX6_moved 0 = .ok (.aload_n 0, 1) := by decide +kernel
theorem dX6_moved_1 : decode cX6_moved 1 = .ok (.iload_n 1, 1) := by decide +kernel
theorem dX6_moved_2 : decode cX6_moved 2 = .ok (.iload_n 2, 1) := by decide +kernel
theorem dX6_moved_3 : decode cX6_moved 3 = .ok (.iconst 0, 1) := by decide +kernel
theorem dX6_moved_4 : decode cX6_moved 4 = .ok (.invokevirtual 106, 3) := by decide +kernel
theorem dX6_moved_7 : decode cX6_moved 7 = .ok (.istore_n 3, 1) := by decide +kernel
theorem dX6_moved_8 : decode cX6_moved 8 = .ok (.aload_n 0, 1) := by decide +kernel
theorem dX6_moved_9 : decode cX6_moved 9 = .ok (.iload_n 1, 1) := by decide +kernel
theorem dX6_moved_10 : decode cX6_moved 10 = .ok (.iload_n 2, 1) := by decide +kernel
theorem dX6_moved_11 : decode cX6_moved 11 = .ok (.iconst 1, 1) := by decide +kernel
theorem dX6_moved_12 : decode cX6_moved 12 = .ok (.invokevirtual 106, 3) := by decide +kernel
theorem dX6_moved_15 : decode cX6_moved 15 = .ok (.istore 4, 2) := by decide +kernel
theorem dX6_moved_17 : decode cX6_moved 17 = .ok (.iload_n 3, 1) := by decide +kernel
theorem dX6_moved_18 : decode cX6_moved 18 = .ok (.ifCond .eq 8, 3) := by decide +kernel
theorem dX6_moved_21 : decode cX6_moved 21 = .ok (.iload 4, 2) := by decide +kernel
theorem dX6_moved_23 : decode cX6_moved 23 = .ok (.ifCond .ne 22, 3) := by decide +kernel
theorem dX6_moved_26 : decode cX6_moved 26 = .ok (.iload_n 3, 1) := by decide +kernel
theorem dX6_moved_27 : decode cX6_moved 27 = .ok (.ifCond .eq 7, 3) := by decide +kernel
theorem dX6_moved_30 : decode cX6_moved 30 = .ok (.iconst 1, 1) := by decide +kernel
theorem dX6_moved_31 : decode cX6_moved 31 = .ok (.goto 13, 3) := by decide +kernel
theorem dX6_moved_34 : decode cX6_moved 34 = .ok (.iload 4, 2) := by decide +kernel
theorem dX6_moved_36 : decode cX6_moved 36 = .ok (.ifCond .eq 7, 3) := by decide +kernel
theorem dX6_moved_39 : decode cX6_moved 39 = .ok (.iconst 0, 1) := by decide +kernel
theorem dX6_moved_40 : decode cX6_moved 40 = .ok (.goto 4, 3) := by decide +kernel
theorem dX6_moved_43 : decode cX6_moved 43 = .ok (.iconst 4, 1) := by decide +kernel
theorem dX6_moved_44 : decode cX6_moved 44 = .ok (.ireturn, 1) := by decide +kernel
theorem dX6_moved_45 : decode cX6_moved 45 = .ok (.iload_n 3, 1) := by decide +kernel
theorem dX6_moved_46 : decode cX6_moved 46 = .ok (.iload 4, 2) := by decide +kernel
theorem dX6_moved_48 : decode cX6_moved 48 = .ok (.if_icmp .ne 7, 3) := by decide +kernel
theorem dX6_moved_51 : decode cX6_moved 51 = .ok (.iconst 2, 1) := by decide +kernel
theorem dX6_moved_52 : decode cX6_moved 52 = .ok (.goto 4, 3) := by decide +kernel
theorem dX6_moved_55 : decode cX6_moved 55 = .ok (.iconst 3, 1) := by decide +kernel
theorem dX6_moved_56 : decode cX6_moved 56 = .ok (.ireturn, 1) := by decide +kernel
set_option maxRecDepth 20000 in
theorem ggX6_moves_X6_isMark : GoodIn wsX6_moves wsX6_isMark := goodIn_r _ [4, 5, 6, 3, 7] (by decide +kernel) (by decide +kernel)
set_option maxRecDepth 20000 in
theorem gX6_moves_X6_isMark : GoodIn wsX6_moves (va_wsS RX6 97 yX6_isMark wsX6_isMark) := goodIn_app (goodIn_of _ (by decide +kernel)) ggX6_moves_X6_isMark
set_option maxRecDepth 20000 in
theorem ggX6_moves_X6_in : GoodIn wsX6_moves wsX6_in := goodIn_r _ [7] (by decide +kernel) (by decide +kernel)
set_option maxRecDepth 20000 in
theorem gX6_moves_X6_in : GoodIn wsX6_moves (va_wsS RX6 57 yX6_in wsX6_in) := goodIn_app (goodIn_of _ (by decide +kernel)) ggX6_moves_X6_in
set_option maxRecDepth 20000 in
theorem ggX6_moves_X6_moved : GoodIn wsX6_moves wsX6_moved := goodIn_r _ [11, 12, 13, 14, 3, 15, 16, 17, 18, 19, 20, 21, 22, 23, 24, 25, 26, 27, 28, 29, 30, 31, 32, 33, 34, 35, 36, 37, 38, 39] (by decide +kernel) (by decide +kernel)
set_option maxRecDepth 20000 in
theorem gX6_moves_X6_moved : GoodIn wsX6_moves (wsV RX6 109 RX6 yX6_moved wsX6_moved) := goodIn_app (goodIn_of _ (by decide +kernel)) ggX6_moves_X6_moved
theorem dX6_moves_0 : decode cX6_moves 0 = .ok (.iload_n 1, 1) := by decide +kernel
theorem dX6_moves_1 : decode cX6_moves 1 = .ok (.invokestatic 97, 3) := by decide +kernel
theorem dX6_moves_4 : decode cX6_moves 4 = .ok (.ifCond .eq 12, 3) := by decide +kernel
theorem dX6_moves_7 : decode cX6_moves 7 = .ok (.iload_n 2, 1) := by decide +kernel
theorem dX6_moves_8 : decode cX6_moves 8 = .ok (.iconst 0, 1) := by decide +kernel
theorem dX6_moves_9 : decode cX6_moves 9 = .ok (.iconst 3, 1) := by decide +kernel
theorem dX6_moves_10 : decode cX6_moves 10 = .ok (.invokestatic 57, 3) := by decide +kernel
theorem dX6_moves_13 : decode cX6_moves 13 = .ok (.ifCond .ne 5, 3) := by decide +kernel
theorem dX6_moves_16 : decode cX6_moves 16 = .ok (.iconst (-1), 1) := by decide +kernel
theorem dX6_moves_17 : decode cX6_moves 17 = .ok (.ireturn, 1) := by decide +kernel
theorem dX6_moves_18 : decode cX6_moves 18 = .ok (.iconst 0, 1) := by decide +kernel
theorem dX6_moves_19 : decode cX6_moves 19 = .ok (.istore_n 3, 1) := by decide +kernel
theorem dX6_moves_20 : decode cX6_moves 20 = .ok (.iconst 0, 1) := by decide +kernel
theorem dX6_moves_21 : decode cX6_moves 21 = .ok (.istore 4, 2) := by decide +kernel
theorem dX6_moves_23 : decode cX6_moves 23 = .ok (.iload 4, 2) := by decide +kernel
theorem dX6_moves_25 : decode cX6_moves 25 = .ok (.bipush 64, 2) := by decide +kernel
theorem dX6_moves_27 : decode cX6_moves 27 = .ok (.if_icmp .ge 28, 3) := by decide +kernel
theorem dX6_moves_30 : decode cX6_moves 30 = .ok (.iload_n 3, 1) := by decide +kernel
theorem dX6_moves_31 : decode cX6_moves 31 = .ok (.aload_n 0, 1) := by decide +kernel
theorem dX6_moves_32 : decode cX6_moves 32 = .ok (.iload_n 1, 1) := by decide +kernel
theorem dX6_moves_33 : decode cX6_moves 33 = .ok (.iload 4, 2) := by decide +kernel
theorem dX6_moves_35 : decode cX6_moves 35 = .ok (.invokevirtual 109, 3) := by decide +kernel
theorem dX6_moves_38 : decode cX6_moves 38 = .ok (.iload_n 2, 1) := by decide +kernel
theorem dX6_moves_39 : decode cX6_moves 39 = .ok (.if_icmp .ne 7, 3) := by decide +kernel
theorem dX6_moves_42 : decode cX6_moves 42 = .ok (.iconst 1, 1) := by decide +kernel
theorem dX6_moves_43 : decode cX6_moves 43 = .ok (.goto 4, 3) := by decide +kernel
theorem dX6_moves_46 : decode cX6_moves 46 = .ok (.iconst 0, 1) := by decide +kernel
theorem dX6_moves_47 : decode cX6_moves 47 = .ok (.iadd, 1) := by decide +kernel
theorem dX6_moves_48 : decode cX6_moves 48 = .ok (.istore_n 3, 1) := by decide +kernel
theorem dX6_moves_49 : decode cX6_moves 49 = .ok (.iinc 4 1, 3) := by decide +kernel
theorem dX6_moves_52 : decode cX6_moves 52 = .ok (.goto (-29), 3) := by decide +kernel
theorem dX6_moves_55 : decode cX6_moves 55 = .ok (.iload_n 3, 1) := by decide +kernel
theorem dX6_moves_56 : decode cX6_moves 56 = .ok (.ireturn, 1) := by decide +kernel
set_option maxRecDepth 20000 in
theorem ggX6_move_X6_isMark : GoodIn wsX6_move wsX6_isMark := goodIn_r _ [4, 5, 6, 3, 7] (by decide +kernel) (by decide +kernel)
set_option maxRecDepth 20000 in
theorem gX6_move_X6_isMark : GoodIn wsX6_move (va_wsS RX6 97 yX6_isMark wsX6_isMark) := goodIn_app (goodIn_of _ (by decide +kernel)) ggX6_move_X6_isMark
set_option maxRecDepth 20000 in
theorem ggX6_move_X6_in : GoodIn wsX6_move wsX6_in := goodIn_r _ [7] (by decide +kernel) (by decide +kernel)
set_option maxRecDepth 20000 in
theorem gX6_move_X6_in : GoodIn wsX6_move (va_wsS RX6 57 yX6_in wsX6_in) := goodIn_app (goodIn_of _ (by decide +kernel)) ggX6_move_X6_in
set_option maxRecDepth 20000 in
theorem ggX6_move_X6_moved : GoodIn wsX6_move wsX6_moved := goodIn_r _ [11, 12, 13, 14, 3, 15, 16, 17, 18, 19, 20, 21, 22, 23, 24, 25, 26, 27, 28, 29, 30, 31, 32, 33, 34, 35, 36, 37, 38, 39] (by decide +kernel) (by decide +kernel)
set_option maxRecDepth 20000 in
theorem gX6_move_X6_moved : GoodIn wsX6_move (wsV RX6 109 RX6 yX6_moved wsX6_moved) := goodIn_app (goodIn_of _ (by decide +kernel)) ggX6_move_X6_moved
theorem dX6_move_0 : decode cX6_move 0 = .ok (.iload_n 1, 1) := by decide +kernel
theorem dX6_move_1 : decode cX6_move 1 = .ok (.invokestatic 97, 3) := by decide +kernel
theorem dX6_move_4 : decode cX6_move 4 = .ok (.ifCond .eq 22, 3) := by decide +kernel
theorem dX6_move_7 : decode cX6_move 7 = .ok (.iload_n 2, 1) := by decide +kernel
theorem dX6_move_8 : decode cX6_move 8 = .ok (.iconst 0, 1) := by decide +kernel
theorem dX6_move_9 : decode cX6_move 9 = .ok (.bipush 63, 2) := by decide +kernel
theorem dX6_move_11 : decode cX6_move 11 = .ok (.invokestatic 57, 3) := by decide +kernel
theorem dX6_move_14 : decode cX6_move 14 = .ok (.ifCond .eq 12, 3) := by decide +kernel
theorem dX6_move_17 : decode cX6_move 17 = .ok (.aload_n 0, 1) := by decide +kernel
theorem dX6_move_18 : decode cX6_move 18 = .ok (.iload_n 1, 1) := by decide +kernel
theorem dX6_move_19 : decode cX6_move 19 = .ok (.iload_n 2, 1) := by decide +kernel
theorem dX6_move_20 : decode cX6_move 20 = .ok (.invokevirtual 109, 3) := by decide +kernel
theorem dX6_move_23 : decode cX6_move 23 = .ok (.goto 4, 3) := by decide +kernel
theorem dX6_move_26 : decode cX6_move 26 = .ok (.iconst (-1), 1) := by decide +kernel
theorem dX6_move_27 : decode cX6_move 27 = .ok (.ireturn, 1) := by decide +kernel
theorem dX6_floor_0 : decode cX6_floor 0 = .ok (.iload_n 0, 1) := by decide +kernel
theorem dX6_floor_1 : decode cX6_floor 1 = .ok (.iload_n 1, 1) := by decide +kernel
theorem dX6_floor_2 : decode cX6_floor 2 = .ok (.idiv, 1) := by decide +kernel
theorem dX6_floor_3 : decode cX6_floor 3 = .ok (.istore_n 2, 1) := by decide +kernel
theorem dX6_floor_4 : decode cX6_floor 4 = .ok (.iload_n 2, 1) := by decide +kernel
theorem dX6_floor_5 : decode cX6_floor 5 = .ok (.iload_n 1, 1) := by decide +kernel
theorem dX6_floor_6 : decode cX6_floor 6 = .ok (.imul, 1) := by decide +kernel
theorem dX6_floor_7 : decode cX6_floor 7 = .ok (.iload_n 0, 1) := by decide +kernel
theorem dX6_floor_8 : decode cX6_floor 8 = .ok (.if_icmp .le 9, 3) := by decide +kernel
theorem dX6_floor_11 : decode cX6_floor 11 = .ok (.iload_n 2, 1) := by decide +kernel
theorem dX6_floor_12 : decode cX6_floor 12 = .ok (.iconst 1, 1) := by decide +kernel
theorem dX6_floor_13 : decode cX6_floor 13 = .ok (.isub, 1) := by decide +kernel
theorem dX6_floor_14 : decode cX6_floor 14 = .ok (.goto 4, 3) := by decide +kernel
theorem dX6_floor_17 : decode cX6_floor 17 = .ok (.iload_n 2, 1) := by decide +kernel
theorem dX6_floor_18 : decode cX6_floor 18 = .ok (.ireturn, 1) := by decide +kernel
set_option maxRecDepth 20000 in
theorem ggX6_rounded_X6_isHeap : GoodIn wsX6_rounded wsX6_isHeap := goodIn_r _ [7, 8, 9, 6, 10] (by decide +kernel) (by decide +kernel)
set_option maxRecDepth 20000 in
theorem gX6_rounded_X6_isHeap : GoodIn wsX6_rounded (va_wsS RX6 80 yX6_isHeap wsX6_isHeap) := goodIn_app (goodIn_of _ (by decide +kernel)) ggX6_rounded_X6_isHeap
set_option maxRecDepth 20000 in
theorem ggX6_rounded_X6_isMark : GoodIn wsX6_rounded wsX6_isMark := goodIn_r _ [13, 8, 9, 6, 10] (by decide +kernel) (by decide +kernel)
set_option maxRecDepth 20000 in
theorem gX6_rounded_X6_isMark : GoodIn wsX6_rounded (va_wsS RX6 97 yX6_isMark wsX6_isMark) := goodIn_app (goodIn_of _ (by decide +kernel)) ggX6_rounded_X6_isMark
set_option maxRecDepth 20000 in
theorem ggX6_rounded_X6_in : GoodIn wsX6_rounded wsX6_in := goodIn_r _ [10] (by decide +kernel) (by decide +kernel)
set_option maxRecDepth 20000 in
theorem gX6_rounded_X6_in : GoodIn wsX6_rounded (va_wsS RX6 57 yX6_in wsX6_in) := goodIn_app (goodIn_of _ (by decide +kernel)) ggX6_rounded_X6_in
set_option maxRecDepth 20000 in
theorem ggX6_rounded_X6_digit : GoodIn wsX6_rounded wsX6_digit := goodIn_r _ [16] (by decide +kernel) (by decide +kernel)
set_option maxRecDepth 20000 in
theorem gX6_rounded_X6_digit : GoodIn wsX6_rounded (va_wsS RX6 61 yX6_digit wsX6_digit) := goodIn_app (goodIn_of _ (by decide +kernel)) ggX6_rounded_X6_digit
set_option maxRecDepth 20000 in
theorem ggX6_rounded_X6_changed : GoodIn wsX6_rounded wsX6_changed := goodIn_r _ [20, 21, 22, 23, 6, 24, 25, 26, 27, 28, 29, 30, 31, 32, 33, 34, 14, 15, 16, 35, 36, 37, 38, 39, 46, 47, 48, 49, 50, 51, 52, 53, 54, 55, 56, 57, 58, 59, 60, 61, 62, 63, 64] (by decide +kernel) (by decide +kernel)
set_option maxRecDepth 20000 in
theorem gX6_rounded_X6_changed : GoodIn wsX6_rounded (wsV RX6 84 RX6 yX6_changed wsX6_changed) := goodIn_app (goodIn_of _ (by decide +kernel)) ggX6_rounded_X6_changed
set_option maxRecDepth 20000 in
theorem ggX6_rounded_X6_floor : GoodIn wsX6_rounded wsX6_floor := goodIn_r _ [42] (by decide +kernel) (by decide +kernel)
set_option maxRecDepth 20000 in
theorem gX6_rounded_X6_floor : GoodIn wsX6_rounded (va_wsS RX6 112 yX6_floor wsX6_floor) := goodIn_app (goodIn_of _ (by decide +kernel)) ggX6_rounded_X6_floor
set_option maxRecDepth 20000 in
theorem ggX6_rounded_X6_place : GoodIn wsX6_rounded wsX6_place := goodIn_r _ [45] (by decide +kernel) (by decide +kernel)
set_option maxRecDepth 20000 in
theorem gX6_rounded_X6_place : GoodIn wsX6_rounded (va_wsS RX6 100 yX6_place wsX6_place) := goodIn_app (goodIn_of _ (by decide +kernel)) ggX6_rounded_X6_place
theorem dX6_rounded_0 : decode cX6_rounded 0 = .ok (.iload_n 1, 1) := by decide +kernel
theorem dX6_rounded_1 : decode cX6_rounded 1 = .ok (.invokestatic 80, 3) := by decide +kernel
theorem dX6_rounded_4 : decode cX6_rounded 4 = .ok (.ifCond .eq 40, 3) := by decide +kernel
theorem dX6_rounded_7 : decode cX6_rounded 7 = .ok (.iload_n 2, 1) := by decide +kernel
theorem dX6_rounded_8 : decode cX6_rounded 8 = .ok (.invokestatic 97, 3) := by decide +kernel
theorem dX6_rounded_11 : decode cX6_rounded 11 = .ok (.ifCond .eq 33, 3) := by decide +kernel
theorem dX6_rounded_14 : decode cX6_rounded 14 = .ok (.iload_n 3, 1) := by decide +kernel
theorem dX6_rounded_15 : decode cX6_rounded 15 = .ok (.iconst 0, 1) := by decide +kernel
theorem dX6_rounded_16 : decode cX6_rounded 16 = .ok (.bipush 8, 2) := by decide +kernel
theorem dX6_rounded_18 : decode cX6_rounded 18 = .ok (.invokestatic 57, 3) := by decide +kernel
theorem dX6_rounded_21 : decode cX6_rounded 21 = .ok (.ifCond .eq 23, 3) := by decide +kernel
theorem dX6_rounded_24 : decode cX6_rounded 24 = .ok (.iload 4, 2) := by decide +kernel
theorem dX6_rounded_26 : decode cX6_rounded 26 = .ok (.iconst 1, 1) := by decide +kernel
theorem dX6_rounded_27 : decode cX6_rounded 27 = .ok (.sipush 1000, 3) := by decide +kernel
theorem dX6_rounded_30 : decode cX6_rounded 30 = .ok (.invokestatic 57, 3) := by decide +kernel
theorem dX6_rounded_33 : decode cX6_rounded 33 = .ok (.ifCond .eq 11, 3) := by decide +kernel
theorem dX6_rounded_36 : decode cX6_rounded 36 = .ok (.iload_n 1, 1) := by decide +kernel
theorem dX6_rounded_37 : decode cX6_rounded 37 = .ok (.iload_n 2, 1) := by decide +kernel
theorem dX6_rounded_38 : decode cX6_rounded 38 = .ok (.invokestatic 61, 3) := by decide +kernel
theorem dX6_rounded_41 : decode cX6_rounded 41 = .ok (.ifCond .eq 6, 3) := by decide +kernel
theorem dX6_rounded_44 : decode cX6_rounded 44 = .ok (.ldc 83, 2) := by decide +kernel
theorem dX6_rounded_46 : decode cX6_rounded 46 = .ok (.ireturn, 1) := by decide +kernel
theorem dX6_rounded_47 : decode cX6_rounded 47 = .ok (.aload_n 0, 1) := by decide +kernel
theorem dX6_rounded_48 : decode cX6_rounded 48 = .ok (.iload_n 1, 1) := by decide +kernel
theorem dX6_rounded_49 : decode cX6_rounded 49 = .ok (.iconst 0, 1) := by decide +kernel
theorem dX6_rounded_50 : decode cX6_rounded 50 = .ok (.invokevirtual 84, 3) := by decide +kernel
theorem dX6_rounded_53 : decode cX6_rounded 53 = .ok (.iload 4, 2) := by decide +kernel
theorem dX6_rounded_55 : decode cX6_rounded 55 = .ok (.invokestatic 112, 3) := by decide +kernel
theorem dX6_rounded_58 : decode cX6_rounded 58 = .ok (.istore 5, 2) := by decide +kernel
theorem dX6_rounded_60 : decode cX6_rounded 60 = .ok (.iload 5, 2) := by decide +kernel
theorem dX6_rounded_62 : decode cX6_rounded 62 = .ok (.istore 6, 2) := by decide +kernel
theorem dX6_rounded_64 : decode cX6_rounded 64 = .ok (.iconst 0, 1) := by decide +kernel
theorem dX6_rounded_65 : decode cX6_rounded 65 = .ok (.istore 7, 2) := by decide +kernel
theorem dX6_rounded_67 : decode cX6_rounded 67 = .ok (.iload 7, 2) := by decide +kernel
theorem dX6_rounded_69 : decode cX6_rounded 69 = .ok (.bipush 8, 2) := by decide +kernel
theorem dX6_rounded_71 : decode cX6_rounded 71 = .ok (.if_icmp .ge 73, 3) := by decide +kernel
theorem dX6_rounded_74 : decode cX6_rounded 74 = .ok (.aload_n 0, 1) := by decide +kernel
theorem dX6_rounded_75 : decode cX6_rounded 75 = .ok (.iload_n 1, 1) := by decide +kernel
theorem dX6_rounded_76 : decode cX6_rounded 76 = .ok (.iload_n 2, 1) := by decide +kernel
theorem dX6_rounded_77 : decode cX6_rounded 77 = .ok (.invokestatic 100, 3) := by decide +kernel
theorem dX6_rounded_80 : decode cX6_rounded 80 = .ok (.iload 7, 2) := by decide +kernel
theorem dX6_rounded_82 : decode cX6_rounded 82 = .ok (.iconst 1, 1) := by decide +kernel
theorem dX6_rounded_83 : decode cX6_rounded 83 = .ok (.iadd, 1) := by decide +kernel
theorem dX6_rounded_84 : decode cX6_rounded 84 = .ok (.imul, 1) := by decide +kernel
theorem dX6_rounded_85 : decode cX6_rounded 85 = .ok (.iadd, 1) := by decide +kernel
theorem dX6_rounded_86 : decode cX6_rounded 86 = .ok (.iconst 0, 1) := by decide +kernel
theorem dX6_rounded_87 : decode cX6_rounded 87 = .ok (.invokevirtual 84, 3) := by decide +kernel
theorem dX6_rounded_90 : decode cX6_rounded 90 = .ok (.istore 8, 2) := by decide +kernel
theorem dX6_rounded_92 : decode cX6_rounded 92 = .ok (.aload_n 0, 1) := by decide +kernel
theorem dX6_rounded_93 : decode cX6_rounded 93 = .ok (.getfield 42, 3) := by decide +kernel
theorem dX6_rounded_96 : decode cX6_rounded 96 = .ok (.iload 7, 2) := by decide +kernel
theorem dX6_rounded_98 : decode cX6_rounded 98 = .ok (.iload 8, 2) := by decide +kernel
theorem dX6_rounded_100 : decode cX6_rounded 100 = .ok (.iload 4, 2) := by decide +kernel
theorem dX6_rounded_102 : decode cX6_rounded 102 = .ok (.invokestatic 112, 3) := by decide +kernel
theorem dX6_rounded_105 : decode cX6_rounded 105 = .ok (.iastore, 1) := by decide +kernel
theorem dX6_rounded_106 : decode cX6_rounded 106 = .ok (.aload_n 0, 1) := by decide +kernel
theorem dX6_rounded_107 : decode cX6_rounded 107 = .ok (.getfield 45, 3) := by decide +kernel
theorem dX6_rounded_110 : decode cX6_rounded 110 = .ok (.iload 7, 2) := by decide +kernel
theorem dX6_rounded_112 : decode cX6_rounded 112 = .ok (.iload 8, 2) := by decide +kernel
theorem dX6_rounded_114 : decode cX6_rounded 114 = .ok (.aload_n 0, 1) := by decide +kernel
theorem dX6_rounded_115 : decode cX6_rounded 115 = .ok (.getfield 42, 3) := by decide +kernel
theorem dX6_rounded_118 : decode cX6_rounded 118 = .ok (.iload 7, 2) := by decide +kernel
theorem dX6_rounded_120 : decode cX6_rounded 120 = .ok (.iaload, 1) := by decide +kernel
theorem dX6_rounded_121 : decode cX6_rounded 121 = .ok (.iload 4, 2) := by decide +kernel
theorem dX6_rounded_123 : decode cX6_rounded 123 = .ok (.imul, 1) := by decide +kernel
theorem dX6_rounded_124 : decode cX6_rounded 124 = .ok (.isub, 1) := by decide +kernel
theorem dX6_rounded_125 : decode cX6_rounded 125 = .ok (.iastore, 1) := by decide +kernel
theorem dX6_rounded_126 : decode cX6_rounded 126 = .ok (.iload 6, 2) := by decide +kernel
theorem dX6_rounded_128 : decode cX6_rounded 128 = .ok (.aload_n 0, 1) := by decide +kernel
theorem dX6_rounded_129 : decode cX6_rounded 129 = .ok (.getfield 42, 3) := by decide +kernel
theorem dX6_rounded_132 : decode cX6_rounded 132 = .ok (.iload 7, 2) := by decide +kernel
theorem dX6_rounded_134 : decode cX6_rounded 134 = .ok (.iaload, 1) := by decide +kernel
theorem dX6_rounded_135 : decode cX6_rounded 135 = .ok (.isub, 1) := by decide +kernel
theorem dX6_rounded_136 : decode cX6_rounded 136 = .ok (.istore 6, 2) := by decide +kernel
theorem dX6_rounded_138 : decode cX6_rounded 138 = .ok (.iinc 7 1, 3) := by decide +kernel
theorem dX6_rounded_141 : decode cX6_rounded 141 = .ok (.goto (-74), 3) := by decide +kernel
theorem dX6_rounded_144 : decode cX6_rounded 144 = .ok (.iload 6, 2) := by decide +kernel
theorem dX6_rounded_146 : decode cX6_rounded 146 = .ok (.ifCond .le 73, 3) := by decide +kernel
theorem dX6_rounded_149 : decode cX6_rounded 149 = .ok (.iconst 0, 1) := by decide +kernel
theorem dX6_rounded_150 : decode cX6_rounded 150 = .ok (.istore 7, 2) := by decide +kernel
theorem dX6_rounded_152 : decode cX6_rounded 152 = .ok (.iconst 1, 1) := by decide +kernel
theorem dX6_rounded_153 : decode cX6_rounded 153 = .ok (.istore 8, 2) := by decide +kernel
theorem dX6_rounded_155 : decode cX6_rounded 155 = .ok (.iload 8, 2) := by decide +kernel
theorem dX6_rounded_157 : decode cX6_rounded 157 = .ok (.bipush 8, 2) := by decide +kernel
theorem dX6_rounded_159 : decode cX6_rounded 159 = .ok (.if_icmp .ge 35, 3) := by decide +kernel
theorem dX6_rounded_162 : decode cX6_rounded 162 = .ok (.aload_n 0, 1) := by decide +kernel
theorem dX6_rounded_163 : decode cX6_rounded 163 = .ok (.getfield 45, 3) := by decide +kernel
theorem dX6_rounded_166 : decode cX6_rounded 166 = .ok (.iload 8, 2) := by decide +kernel
theorem dX6_rounded_168 : decode cX6_rounded 168 = .ok (.iaload, 1) := by decide +kernel
theorem dX6_rounded_169 : decode cX6_rounded 169 = .ok (.aload_n 0, 1) := by decide +kernel
theorem dX6_rounded_170 : decode cX6_rounded 170 = .ok (.getfield 45, 3) := by decide +kernel
theorem dX6_rounded_173 : decode cX6_rounded 173 = .ok (.iload 7, 2) := by decide +kernel
theorem dX6_rounded_175 : decode cX6_rounded 175 = .ok (.iaload, 1) := by decide +kernel
theorem dX6_rounded_176 : decode cX6_rounded 176 = .ok (.if_icmp .le 8, 3) := by decide +kernel
theorem dX6_rounded_179 : decode cX6_rounded 179 = .ok (.iload 8, 2) := by decide +kernel
theorem dX6_rounded_181 : decode cX6_rounded 181 = .ok (.goto 5, 3) := by decide +kernel
theorem dX6_rounded_184 : decode cX6_rounded 184 = .ok (.iload 7, 2) := by decide +kernel
theorem dX6_rounded_186 : decode cX6_rounded 186 = .ok (.istore 7, 2) := by decide +kernel
theorem dX6_rounded_188 : decode cX6_rounded 188 = .ok (.iinc 8 1, 3) := by decide +kernel
theorem dX6_rounded_191 : decode cX6_rounded 191 = .ok (.goto (-36), 3) := by decide +kernel
theorem dX6_rounded_194 : decode cX6_rounded 194 = .ok (.aload_n 0, 1) := by decide +kernel
theorem dX6_rounded_195 : decode cX6_rounded 195 = .ok (.getfield 42, 3) := by decide +kernel
theorem dX6_rounded_198 : decode cX6_rounded 198 = .ok (.iload 7, 2) := by decide +kernel
theorem dX6_rounded_200 : decode cX6_rounded 200 = .ok (.dup2, 1) := by decide +kernel
theorem dX6_rounded_201 : decode cX6_rounded 201 = .ok (.iaload, 1) := by decide +kernel
theorem dX6_rounded_202 : decode cX6_rounded 202 = .ok (.iconst 1, 1) := by decide +kernel
theorem dX6_rounded_203 : decode cX6_rounded 203 = .ok (.iadd, 1) := by decide +kernel
theorem dX6_rounded_204 : decode cX6_rounded 204 = .ok (.iastore, 1) := by decide +kernel
theorem dX6_rounded_205 : decode cX6_rounded 205 = .ok (.aload_n 0, 1) := by decide +kernel
theorem dX6_rounded_206 : decode cX6_rounded 206 = .ok (.getfield 45, 3) := by decide +kernel
theorem dX6_rounded_209 : decode cX6_rounded 209 = .ok (.iload 7, 2) := by decide +kernel
theorem dX6_rounded_211 : decode cX6_rounded 211 = .ok (.iconst (-1), 1) := by decide +kernel
theorem dX6_rounded_212 : decode cX6_rounded 212 = .ok (.iastore, 1) := by decide +kernel
theorem dX6_rounded_213 : decode cX6_rounded 213 = .ok (.iinc 6 (-1), 3) := by decide +kernel
theorem dX6_rounded_216 : decode cX6_rounded 216 = .ok (.goto (-72), 3) := by decide +kernel
theorem dX6_rounded_219 : decode cX6_rounded 219 = .ok (.iload_n 3, 1) := by decide +kernel
theorem dX6_rounded_220 : decode cX6_rounded 220 = .ok (.bipush 8, 2) := by decide +kernel
theorem dX6_rounded_222 : decode cX6_rounded 222 = .ok (.if_icmp .ne 8, 3) := by decide +kernel
theorem dX6_rounded_225 : decode cX6_rounded 225 = .ok (.iload 5, 2) := by decide +kernel
theorem dX6_rounded_227 : decode cX6_rounded 227 = .ok (.goto 9, 3) := by decide +kernel
theorem dX6_rounded_230 : decode cX6_rounded 230 = .ok (.aload_n 0, 1) := by decide +kernel
theorem dX6_rounded_231 : decode cX6_rounded 231 = .ok (.getfield 42, 3) := by decide +kernel
theorem dX6_rounded_234 : decode cX6_rounded 234 = .ok (.iload_n 3, 1) := by decide +kernel
theorem dX6_rounded_235 : decode cX6_rounded 235 = .ok (.iaload, 1) := by decide +kernel
theorem dX6_rounded_236 : decode cX6_rounded 236 = .ok (.ireturn, 1) := by decide +kernel
set_option maxRecDepth 20000 in
theorem ggX6_factor_X6_in : GoodIn wsX6_factor wsX6_in := goodIn_r _ [6] (by decide +kernel) (by decide +kernel)
set_option maxRecDepth 20000 in
theorem gX6_factor_X6_in : GoodIn wsX6_factor (va_wsS RX6 57 yX6_in wsX6_in) := goodIn_app (goodIn_of _ (by decide +kernel)) ggX6_factor_X6_in
theorem dX6_factor_0 : decode cX6_factor 0 = .ok (.iload_n 1, 1) := by decide +kernel
theorem dX6_factor_1 : decode cX6_factor 1 = .ok (.iconst 0, 1) := by decide +kernel
theorem dX6_factor_2 : decode cX6_factor 2 = .ok (.iconst 4, 1) := by decide +kernel
theorem dX6_factor_3 : decode cX6_factor 3 = .ok (.invokestatic 57, 3) := by decide +kernel
theorem dX6_factor_6 : decode cX6_factor 6 = .ok (.ifCond .eq 25, 3) := by decide +kernel
theorem dX6_factor_9 : decode cX6_factor 9 = .ok (.iload_n 2, 1) := by decide +kernel
theorem dX6_factor_10 : decode cX6_factor 10 = .ok (.bipush (-99), 2) := by decide +kernel
theorem dX6_factor_12 : decode cX6_factor 12 = .ok (.bipush 99, 2) := by decide +kernel
theorem dX6_factor_14 : decode cX6_factor 14 = .ok (.invokestatic 57, 3) := by decide +kernel
theorem dX6_factor_17 : decode cX6_factor 17 = .ok (.ifCond .eq 14, 3) := by decide +kernel
theorem dX6_factor_20 : decode cX6_factor 20 = .ok (.iload_n 3, 1) := by decide +kernel
theorem dX6_factor_21 : decode cX6_factor 21 = .ok (.bipush (-99), 2) := by decide +kernel
theorem dX6_factor_23 : decode cX6_factor 23 = .ok (.bipush 99, 2) := by decide +kernel
theorem dX6_factor_25 : decode cX6_factor 25 = .ok (.invokestatic 57, 3) := by decide +kernel
theorem dX6_factor_28 : decode cX6_factor 28 = .ok (.ifCond .ne 5, 3) := by decide +kernel
theorem dX6_factor_31 : decode cX6_factor 31 = .ok (.iconst (-1), 1) := by decide +kernel
theorem dX6_factor_32 : decode cX6_factor 32 = .ok (.ireturn, 1) := by decide +kernel
theorem dX6_factor_33 : decode cX6_factor 33 = .ok (.aload_n 0, 1) := by decide +kernel
theorem dX6_factor_34 : decode cX6_factor 34 = .ok (.getfield 32, 3) := by decide +kernel
theorem dX6_factor_37 : decode cX6_factor 37 = .ok (.iload_n 1, 1) := by decide +kernel
theorem dX6_factor_38 : decode cX6_factor 38 = .ok (.iload_n 2, 1) := by decide +kernel
theorem dX6_factor_39 : decode cX6_factor 39 = .ok (.iastore, 1) := by decide +kernel
theorem dX6_factor_40 : decode cX6_factor 40 = .ok (.aload_n 0, 1) := by decide +kernel
theorem dX6_factor_41 : decode cX6_factor 41 = .ok (.getfield 35, 3) := by decide +kernel
theorem dX6_factor_44 : decode cX6_factor 44 = .ok (.iload_n 1, 1) := by decide +kernel
theorem dX6_factor_45 : decode cX6_factor 45 = .ok (.iload_n 3, 1) := by decide +kernel
theorem dX6_factor_46 : decode cX6_factor 46 = .ok (.iastore, 1) := by decide +kernel
theorem dX6_factor_47 : decode cX6_factor 47 = .ok (.iconst 1, 1) := by decide +kernel
theorem dX6_factor_48 : decode cX6_factor 48 = .ok (.ireturn, 1) := by decide +kernel
theorem dX6_of_0 : decode cX6_of 0 = .ok (.iload_n 2, 1) := by decide +kernel
theorem dX6_of_1 : decode cX6_of 1 = .ok (.iload_n 1, 1) := by decide +kernel
theorem dX6_of_2 : decode cX6_of 2 = .ok (.ishr, 1) := by decide +kernel
theorem dX6_of_3 : decode cX6_of 3 = .ok (.iconst 1, 1) := by decide +kernel
theorem dX6_of_4 : decode cX6_of 4 = .ok (.iand, 1) := by decide +kernel
theorem dX6_of_5 : decode cX6_of 5 = .ok (.iconst 1, 1) := by decide +kernel
theorem dX6_of_6 : decode cX6_of 6 = .ok (.if_icmp .ne 12, 3) := by decide +kernel
theorem dX6_of_9 : decode cX6_of 9 = .ok (.aload_n 0, 1) := by decide +kernel
theorem dX6_of_10 : decode cX6_of 10 = .ok (.getfield 35, 3) := by decide +kernel
theorem dX6_of_13 : decode cX6_of 13 = .ok (.iload_n 1, 1) := by decide +kernel
theorem dX6_of_14 : decode cX6_of 14 = .ok (.iaload, 1) := by decide +kernel
theorem dX6_of_15 : decode cX6_of 15 = .ok (.goto 9, 3) := by decide +kernel
theorem dX6_of_18 : decode cX6_of 18 = .ok (.aload_n 0, 1) := by decide +kernel
theorem dX6_of_19 : decode cX6_of 19 = .ok (.getfield 32, 3) := by decide +kernel
theorem dX6_of_22 : decode cX6_of 22 = .ok (.iload_n 1, 1) := by decide +kernel
theorem dX6_of_23 : decode cX6_of 23 = .ok (.iaload, 1) := by decide +kernel
theorem dX6_of_24 : decode cX6_of 24 = .ok (.ireturn, 1) := by decide +kernel
set_option maxRecDepth 20000 in
theorem ggX6_comes_X6_of : GoodIn wsX6_comes wsX6_of := goodIn_r _ [5, 6, 7, 8, 9, 10, 11, 12, 13, 14, 15, 16, 17, 18, 19, 20, 21, 22, 23, 24, 25, 26] (by decide +kernel) (by decide +kernel)
set_option maxRecDepth 20000 in
theorem gX6_comes_X6_of : GoodIn wsX6_comes (wsV RX6 115 RX6 yX6_of wsX6_of) := goodIn_app (goodIn_of _ (by decide +kernel)) ggX6_comes_X6_of
theorem dX6_comes_0 : decode cX6_comes 0 = .ok (.aload_n 0, 1) := by decide +kernel
theorem dX6_comes_1 : decode cX6_comes 1 = .ok (.iconst 0, 1) := by decide +kernel
theorem dX6_comes_2 : decode cX6_comes 2 = .ok (.iload_n 1, 1) := by decide +kernel
theorem dX6_comes_3 : decode cX6_comes 3 = .ok (.invokevirtual 115, 3) := by decide +kernel
theorem dX6_comes_6 : decode cX6_comes 6 = .ok (.aload_n 0, 1) := by decide +kernel
theorem dX6_comes_7 : decode cX6_comes 7 = .ok (.iconst 1, 1) := by decide +kernel
theorem dX6_comes_8 : decode cX6_comes 8 = .ok (.iload_n 1, 1) := by decide +kernel
theorem dX6_comes_9 : decode cX6_comes 9 = .ok (.invokevirtual 115, 3) := by decide +kernel
theorem dX6_comes_12 : decode cX6_comes 12 = .ok (.imul, 1) := by decide +kernel
theorem dX6_comes_13 : decode cX6_comes 13 = .ok (.aload_n 0, 1) := by decide +kernel
theorem dX6_comes_14 : decode cX6_comes 14 = .ok (.iconst 2, 1) := by decide +kernel
theorem dX6_comes_15 : decode cX6_comes 15 = .ok (.iload_n 1, 1) := by decide +kernel
theorem dX6_comes_16 : decode cX6_comes 16 = .ok (.invokevirtual 115, 3) := by decide +kernel
theorem dX6_comes_19 : decode cX6_comes 19 = .ok (.aload_n 0, 1) := by decide +kernel
theorem dX6_comes_20 : decode cX6_comes 20 = .ok (.iconst 3, 1) := by decide +kernel
theorem dX6_comes_21 : decode cX6_comes 21 = .ok (.iload_n 1, 1) := by decide +kernel
theorem dX6_comes_22 : decode cX6_comes 22 = .ok (.invokevirtual 115, 3) := by decide +kernel
theorem dX6_comes_25 : decode cX6_comes 25 = .ok (.imul, 1) := by decide +kernel
theorem dX6_comes_26 : decode cX6_comes 26 = .ok (.iadd, 1) := by decide +kernel
theorem dX6_comes_27 : decode cX6_comes 27 = .ok (.aload_n 0, 1) := by decide +kernel
theorem dX6_comes_28 : decode cX6_comes 28 = .ok (.iconst 4, 1) := by decide +kernel
theorem dX6_comes_29 : decode cX6_comes 29 = .ok (.iload_n 1, 1) := by decide +kernel
theorem dX6_comes_30 : decode cX6_comes 30 = .ok (.invokevirtual 115, 3) := by decide +kernel
theorem dX6_comes_33 : decode cX6_comes 33 = .ok (.iadd, 1) := by decide +kernel
theorem dX6_comes_34 : decode cX6_comes 34 = .ok (.ireturn, 1) := by decide +kernel
set_option maxRecDepth 20000 in
theorem ggX6_outcome_X6_in : GoodIn wsX6_outcome wsX6_in := goodIn_r _ [5] (by decide +kernel) (by decide +kernel)
set_option maxRecDepth 20000 in
theorem gX6_outcome_X6_in : GoodIn wsX6_outcome (va_wsS RX6 57 yX6_in wsX6_in) := goodIn_app (goodIn_of _ (by decide +kernel)) ggX6_outcome_X6_in
set_option maxRecDepth 20000 in
theorem ggX6_outcome_X6_comes : GoodIn wsX6_outcome wsX6_comes := goodIn_r _ [9, 10, 11, 12, 4, 13, 14, 15, 16, 17, 18, 19, 20, 21, 22, 23, 24, 25, 26, 27, 28, 29, 30, 31, 32, 33, 34] (by decide +kernel) (by decide +kernel)
set_option maxRecDepth 20000 in
theorem gX6_outcome_X6_comes : GoodIn wsX6_outcome (wsV RX6 118 RX6 yX6_comes wsX6_comes) := goodIn_app (goodIn_of _ (by decide +kernel)) ggX6_outcome_X6_comes
theorem dX6_outcome_0 : decode cX6_outcome 0 = .ok (.iload_n 1, 1) := by decide +kernel
theorem dX6_outcome_1 : decode cX6_outcome 1 = .ok (.iconst 0, 1) := by decide +kernel
theorem dX6_outcome_2 : decode cX6_outcome 2 = .ok (.bipush 31, 2) := by decide +kernel
theorem dX6_outcome_4 : decode cX6_outcome 4 = .ok (.invokestatic 57, 3) := by decide +kernel
theorem dX6_outcome_7 : decode cX6_outcome 7 = .ok (.ifCond .eq 11, 3) := by decide +kernel
theorem dX6_outcome_10 : decode cX6_outcome 10 = .ok (.aload_n 0, 1) := by decide +kernel
theorem dX6_outcome_11 : decode cX6_outcome 11 = .ok (.iload_n 1, 1) := by decide +kernel
theorem dX6_outcome_12 : decode cX6_outcome 12 = .ok (.invokevirtual 118, 3) := by decide +kernel
theorem dX6_outcome_15 : decode cX6_outcome 15 = .ok (.goto 5, 3) := by decide +kernel
theorem dX6_outcome_18 : decode cX6_outcome 18 = .ok (.ldc 83, 2) := by decide +kernel
theorem dX6_outcome_20 : decode cX6_outcome 20 = .ok (.ireturn, 1) := by decide +kernel
set_option maxRecDepth 20000 in
theorem ggX6_share_X6_in : GoodIn wsX6_share wsX6_in := goodIn_r _ [6] (by decide +kernel) (by decide +kernel)
set_option maxRecDepth 20000 in
theorem gX6_share_X6_in : GoodIn wsX6_share (va_wsS RX6 57 yX6_in wsX6_in) := goodIn_app (goodIn_of _ (by decide +kernel)) ggX6_share_X6_in
set_option maxRecDepth 20000 in
theorem ggX6_share_X6_comes : GoodIn wsX6_share wsX6_comes := goodIn_r _ [10, 11, 12, 13, 5, 14, 15, 16, 23, 24, 25, 26, 27, 28, 29, 30, 31, 32, 33, 34, 35, 36, 37, 38, 39, 40, 41] (by decide +kernel) (by decide +kernel)
set_option maxRecDepth 20000 in
theorem gX6_share_X6_comes : GoodIn wsX6_share (wsV RX6 118 RX6 yX6_comes wsX6_comes) := goodIn_app (goodIn_of _ (by decide +kernel)) ggX6_share_X6_comes
set_option maxRecDepth 20000 in
theorem ggX6_share_X6_lowest : GoodIn wsX6_share wsX6_lowest := goodIn_r _ [19, 20, 21, 5, 22] (by decide +kernel) (by decide +kernel)
set_option maxRecDepth 20000 in
theorem gX6_share_X6_lowest : GoodIn wsX6_share (va_wsS RX6 91 yX6_lowest wsX6_lowest) := goodIn_app (goodIn_of _ (by decide +kernel)) ggX6_share_X6_lowest
theorem dX6_share_0 : decode cX6_share 0 = .ok (.iload_n 1, 1) := by decide +kernel
theorem dX6_share_1 : decode cX6_share 1 = .ok (.iconst 0, 1) := by decide +kernel
theorem dX6_share_2 : decode cX6_share 2 = .ok (.iconst 4, 1) := by decide +kernel
theorem dX6_share_3 : decode cX6_share 3 = .ok (.invokestatic 57, 3) := by decide +kernel
theorem dX6_share_6 : decode cX6_share 6 = .ok (.ifCond .eq 12, 3) := by decide +kernel
theorem dX6_share_9 : decode cX6_share 9 = .ok (.iload_n 2, 1) := by decide +kernel
theorem dX6_share_10 : decode cX6_share 10 = .ok (.iconst 0, 1) := by decide +kernel
theorem dX6_share_11 : decode cX6_share 11 = .ok (.iconst 1, 1) := by decide +kernel
theorem dX6_share_12 : decode cX6_share 12 = .ok (.invokestatic 57, 3) := by decide +kernel
theorem dX6_share_15 : decode cX6_share 15 = .ok (.ifCond .ne 6, 3) := by decide +kernel
theorem dX6_share_18 : decode cX6_share 18 = .ok (.ldc 83, 2) := by decide +kernel
theorem dX6_share_20 : decode cX6_share 20 = .ok (.ireturn, 1) := by decide +kernel
theorem dX6_share_21 : decode cX6_share 21 = .ok (.iconst 0, 1) := by decide +kernel
theorem dX6_share_22 : decode cX6_share 22 = .ok (.istore_n 3, 1) := by decide +kernel
theorem dX6_share_23 : decode cX6_share 23 = .ok (.iconst 0, 1) := by decide +kernel
theorem dX6_share_24 : decode cX6_share 24 = .ok (.istore 4, 2) := by decide +kernel
theorem dX6_share_26 : decode cX6_share 26 = .ok (.iload 4, 2) := by decide +kernel
theorem dX6_share_28 : decode cX6_share 28 = .ok (.sipush 3125, 3) := by decide +kernel
theorem dX6_share_31 : decode cX6_share 31 = .ok (.if_icmp .ge 99, 3) := by decide +kernel
theorem dX6_share_34 : decode cX6_share 34 = .ok (.iconst 0, 1) := by decide +kernel
theorem dX6_share_35 : decode cX6_share 35 = .ok (.istore 5, 2) := by decide +kernel
theorem dX6_share_37 : decode cX6_share 37 = .ok (.iconst 0, 1) := by decide +kernel
theorem dX6_share_38 : decode cX6_share 38 = .ok (.istore 6, 2) := by decide +kernel
theorem dX6_share_40 : decode cX6_share 40 = .ok (.iload 4, 2) := by decide +kernel
theorem dX6_share_42 : decode cX6_share 42 = .ok (.istore 7, 2) := by decide +kernel
theorem dX6_share_44 : decode cX6_share 44 = .ok (.iconst 0, 1) := by decide +kernel
theorem dX6_share_45 : decode cX6_share 45 = .ok (.istore 8, 2) := by decide +kernel
theorem dX6_share_47 : decode cX6_share 47 = .ok (.iload 8, 2) := by decide +kernel
theorem dX6_share_49 : decode cX6_share 49 = .ok (.iconst 5, 1) := by decide +kernel
theorem dX6_share_50 : decode cX6_share 50 = .ok (.if_icmp .ge 43, 3) := by decide +kernel
theorem dX6_share_53 : decode cX6_share 53 = .ok (.iload 7, 2) := by decide +kernel
theorem dX6_share_55 : decode cX6_share 55 = .ok (.iconst 5, 1) := by decide +kernel
theorem dX6_share_56 : decode cX6_share 56 = .ok (.irem, 1) := by decide +kernel
theorem dX6_share_57 : decode cX6_share 57 = .ok (.iload_n 1, 1) := by decide +kernel
theorem dX6_share_58 : decode cX6_share 58 = .ok (.if_icmp .ne 8, 3) := by decide +kernel
theorem dX6_share_61 : decode cX6_share 61 = .ok (.iload 5, 2) := by decide +kernel
theorem dX6_share_63 : decode cX6_share 63 = .ok (.goto 5, 3) := by decide +kernel
theorem dX6_share_66 : decode cX6_share 66 = .ok (.iload 6, 2) := by decide +kernel
theorem dX6_share_68 : decode cX6_share 68 = .ok (.istore 6, 2) := by decide +kernel
theorem dX6_share_70 : decode cX6_share 70 = .ok (.iload 5, 2) := by decide +kernel
theorem dX6_share_72 : decode cX6_share 72 = .ok (.iconst 1, 1) := by decide +kernel
theorem dX6_share_73 : decode cX6_share 73 = .ok (.iload 7, 2) := by decide +kernel
theorem dX6_share_75 : decode cX6_share 75 = .ok (.iconst 5, 1) := by decide +kernel
theorem dX6_share_76 : decode cX6_share 76 = .ok (.irem, 1) := by decide +kernel
theorem dX6_share_77 : decode cX6_share 77 = .ok (.ishl, 1) := by decide +kernel
theorem dX6_share_78 : decode cX6_share 78 = .ok (.ior, 1) := by decide +kernel
theorem dX6_share_79 : decode cX6_share 79 = .ok (.istore 5, 2) := by decide +kernel
theorem dX6_share_81 : decode cX6_share 81 = .ok (.iload 7, 2) := by decide +kernel
theorem dX6_share_83 : decode cX6_share 83 = .ok (.iconst 5, 1) := by decide +kernel
theorem dX6_share_84 : decode cX6_share 84 = .ok (.idiv, 1) := by decide +kernel
theorem dX6_share_85 : decode cX6_share 85 = .ok (.istore 7, 2) := by decide +kernel
theorem dX6_share_87 : decode cX6_share 87 = .ok (.iinc 8 1, 3) := by decide +kernel
theorem dX6_share_90 : decode cX6_share 90 = .ok (.goto (-43), 3) := by decide +kernel
theorem dX6_share_93 : decode cX6_share 93 = .ok (.iload_n 3, 1) := by decide +kernel
theorem dX6_share_94 : decode cX6_share 94 = .ok (.iload 5, 2) := by decide +kernel
theorem dX6_share_96 : decode cX6_share 96 = .ok (.bipush 31, 2) := by decide +kernel
theorem dX6_share_98 : decode cX6_share 98 = .ok (.if_icmp .ne 23, 3) := by decide +kernel
theorem dX6_share_101 : decode cX6_share 101 = .ok (.aload_n 0, 1) := by decide +kernel
theorem dX6_share_102 : decode cX6_share 102 = .ok (.iload 6, 2) := by decide +kernel
theorem dX6_share_104 : decode cX6_share 104 = .ok (.iconst 1, 1) := by decide +kernel
theorem dX6_share_105 : decode cX6_share 105 = .ok (.iload_n 1, 1) := by decide +kernel
theorem dX6_share_106 : decode cX6_share 106 = .ok (.ishl, 1) := by decide +kernel
theorem dX6_share_107 : decode cX6_share 107 = .ok (.ior, 1) := by decide +kernel
theorem dX6_share_108 : decode cX6_share 108 = .ok (.invokevirtual 118, 3) := by decide +kernel
theorem dX6_share_111 : decode cX6_share 111 = .ok (.aload_n 0, 1) := by decide +kernel
theorem dX6_share_112 : decode cX6_share 112 = .ok (.iload 6, 2) := by decide +kernel
theorem dX6_share_114 : decode cX6_share 114 = .ok (.invokevirtual 118, 3) := by decide +kernel
theorem dX6_share_117 : decode cX6_share 117 = .ok (.isub, 1) := by decide +kernel
theorem dX6_share_118 : decode cX6_share 118 = .ok (.goto 4, 3) := by decide +kernel
theorem dX6_share_121 : decode cX6_share 121 = .ok (.iconst 0, 1) := by decide +kernel
theorem dX6_share_122 : decode cX6_share 122 = .ok (.iadd, 1) := by decide +kernel
theorem dX6_share_123 : decode cX6_share 123 = .ok (.istore_n 3, 1) := by decide +kernel
theorem dX6_share_124 : decode cX6_share 124 = .ok (.iinc 4 1, 3) := by decide +kernel
theorem dX6_share_127 : decode cX6_share 127 = .ok (.goto (-101), 3) := by decide +kernel
theorem dX6_share_130 : decode cX6_share 130 = .ok (.iload_n 3, 1) := by decide +kernel
theorem dX6_share_131 : decode cX6_share 131 = .ok (.i2l, 1) := by decide +kernel
theorem dX6_share_132 : decode cX6_share 132 = .ok (.ldc2_w 121, 3) := by decide +kernel
theorem dX6_share_135 : decode cX6_share 135 = .ok (.iload_n 2, 1) := by decide +kernel
theorem dX6_share_136 : decode cX6_share 136 = .ok (.invokestatic 91, 3) := by decide +kernel
theorem dX6_share_139 : decode cX6_share 139 = .ok (.l2i, 1) := by decide +kernel
theorem dX6_share_140 : decode cX6_share 140 = .ok (.ireturn, 1) := by decide +kernel
set_option maxRecDepth 20000 in
theorem ggX6_expect_X6_in : GoodIn wsX6_expect wsX6_in := goodIn_r _ [6] (by decide +kernel) (by decide +kernel)
set_option maxRecDepth 20000 in
theorem gX6_expect_X6_in : GoodIn wsX6_expect (va_wsS RX6 57 yX6_in wsX6_in) := goodIn_app (goodIn_of _ (by decide +kernel)) ggX6_expect_X6_in
theorem dX6_expect_0 : decode cX6_expect 0 = .ok (.iload_n 1, 1) := by decide +kernel
theorem dX6_expect_1 : decode cX6_expect 1 = .ok (.sipush (-9999), 3) := by decide +kernel
theorem dX6_expect_4 : decode cX6_expect 4 = .ok (.sipush 9999, 3) := by decide +kernel
theorem dX6_expect_7 : decode cX6_expect 7 = .ok (.invokestatic 57, 3) := by decide +kernel
theorem dX6_expect_10 : decode cX6_expect 10 = .ok (.ifCond .ne 6, 3) := by decide +kernel
theorem dX6_expect_13 : decode cX6_expect 13 = .ok (.ldc 83, 2) := by decide +kernel
theorem dX6_expect_15 : decode cX6_expect 15 = .ok (.ireturn, 1) := by decide +kernel
theorem dX6_expect_16 : decode cX6_expect 16 = .ok (.aload_n 0, 1) := by decide +kernel
theorem dX6_expect_17 : decode cX6_expect 17 = .ok (.getfield 123, 3) := by decide +kernel
theorem dX6_expect_20 : decode cX6_expect 20 = .ok (.istore_n 2, 1) := by decide +kernel
theorem dX6_expect_21 : decode cX6_expect 21 = .ok (.aload_n 0, 1) := by decide +kernel
theorem dX6_expect_22 : decode cX6_expect 22 = .ok (.iload_n 1, 1) := by decide +kernel
theorem dX6_expect_23 : decode cX6_expect 23 = .ok (.putfield 123, 3) := by decide +kernel
theorem dX6_expect_26 : decode cX6_expect 26 = .ok (.iload_n 2, 1) := by decide +kernel
theorem dX6_expect_27 : decode cX6_expect 27 = .ok (.ireturn, 1) := by decide +kernel
set_option maxRecDepth 20000 in
theorem ggX6_hasRows_X6_isIn : GoodIn wsX6_hasRows wsX6_isIn := goodIn_r _ [6, 7, 8, 9, 10, 5, 11, 12, 13, 14, 15, 16, 17, 18, 19, 20, 21, 22, 23, 24, 25, 26, 27, 28, 29, 30] (by decide +kernel) (by decide +kernel)
set_option maxRecDepth 20000 in
theorem gX6_hasRows_X6_isIn : GoodIn wsX6_hasRows (wsV RX6 69 RX6 yX6_isIn wsX6_isIn) := goodIn_app (goodIn_of _ (by decide +kernel)) ggX6_hasRows_X6_isIn
theorem dX6_hasRows_0 : decode cX6_hasRows 0 = .ok (.iconst 0, 1) := by decide +kernel
theorem dX6_hasRows_1 : decode cX6_hasRows 1 = .ok (.istore_n 2, 1) := by decide +kernel
theorem dX6_hasRows_2 : decode cX6_hasRows 2 = .ok (.iload_n 2, 1) := by decide +kernel
theorem dX6_hasRows_3 : decode cX6_hasRows 3 = .ok (.aload_n 0, 1) := by decide +kernel
theorem dX6_hasRows_4 : decode cX6_hasRows 4 = .ok (.getfield 54, 3) := by decide +kernel
theorem dX6_hasRows_7 : decode cX6_hasRows 7 = .ok (.if_icmp .ge 20, 3) := by decide +kernel
theorem dX6_hasRows_10 : decode cX6_hasRows 10 = .ok (.aload_n 0, 1) := by decide +kernel
theorem dX6_hasRows_11 : decode cX6_hasRows 11 = .ok (.iload_n 2, 1) := by decide +kernel
theorem dX6_hasRows_12 : decode cX6_hasRows 12 = .ok (.iload_n 1, 1) := by decide +kernel
theorem dX6_hasRows_13 : decode cX6_hasRows 13 = .ok (.invokevirtual 69, 3) := by decide +kernel
theorem dX6_hasRows_16 : decode cX6_hasRows 16 = .ok (.ifCond .eq 5, 3) := by decide +kernel
theorem dX6_hasRows_19 : decode cX6_hasRows 19 = .ok (.iconst 1, 1) := by decide +kernel
theorem dX6_hasRows_20 : decode cX6_hasRows 20 = .ok (.ireturn, 1) := by decide +kernel
theorem dX6_hasRows_21 : decode cX6_hasRows 21 = .ok (.iinc 2 1, 3) := by decide +kernel
theorem dX6_hasRows_24 : decode cX6_hasRows 24 = .ok (.goto (-22), 3) := by decide +kernel
theorem dX6_hasRows_27 : decode cX6_hasRows 27 = .ok (.iconst 0, 1) := by decide +kernel
theorem dX6_hasRows_28 : decode cX6_hasRows 28 = .ok (.ireturn, 1) := by decide +kernel
set_option maxRecDepth 20000 in
theorem ggX6_mayTell_X6_tests : GoodIn wsX6_mayTell wsX6_tests := goodIn_r _ [4, 5, 6, 3, 7] (by decide +kernel) (by decide +kernel)
set_option maxRecDepth 20000 in
theorem gX6_mayTell_X6_tests : GoodIn wsX6_mayTell (va_wsS RX6 126 yX6_tests wsX6_tests) := goodIn_app (goodIn_of _ (by decide +kernel)) ggX6_mayTell_X6_tests
set_option maxRecDepth 20000 in
theorem ggX6_mayTell_X6_in : GoodIn wsX6_mayTell wsX6_in := goodIn_r _ [10] (by decide +kernel) (by decide +kernel)
set_option maxRecDepth 20000 in
theorem gX6_mayTell_X6_in : GoodIn wsX6_mayTell (va_wsS RX6 57 yX6_in wsX6_in) := goodIn_app (goodIn_of _ (by decide +kernel)) ggX6_mayTell_X6_in
set_option maxRecDepth 20000 in
theorem ggX6_mayTell_X6_hasRows : GoodIn wsX6_mayTell wsX6_hasRows := goodIn_r _ [14, 15, 16, 17, 18, 3, 19, 20, 21, 5, 6, 7, 22, 23, 24, 25, 26, 27, 28, 29, 30, 31, 32, 33, 34, 35, 36, 37, 38, 39, 40] (by decide +kernel) (by decide +kernel)
set_option maxRecDepth 20000 in
theorem gX6_mayTell_X6_hasRows : GoodIn wsX6_mayTell (wsV RX6 129 RX6 yX6_hasRows wsX6_hasRows) := goodIn_app (goodIn_of _ (by decide +kernel)) ggX6_mayTell_X6_hasRows
theorem dX6_mayTell_0 : decode cX6_mayTell 0 = .ok (.iload_n 1, 1) := by decide +kernel
theorem dX6_mayTell_1 : decode cX6_mayTell 1 = .ok (.invokestatic 126, 3) := by decide +kernel
theorem dX6_mayTell_4 : decode cX6_mayTell 4 = .ok (.iconst 1, 1) := by decide +kernel
theorem dX6_mayTell_5 : decode cX6_mayTell 5 = .ok (.iconst 2, 1) := by decide +kernel
theorem dX6_mayTell_6 : decode cX6_mayTell 6 = .ok (.invokestatic 57, 3) := by decide +kernel
theorem dX6_mayTell_9 : decode cX6_mayTell 9 = .ok (.ifCond .eq 15, 3) := by decide +kernel
theorem dX6_mayTell_12 : decode cX6_mayTell 12 = .ok (.aload_n 0, 1) := by decide +kernel
theorem dX6_mayTell_13 : decode cX6_mayTell 13 = .ok (.iload_n 1, 1) := by decide +kernel
theorem dX6_mayTell_14 : decode cX6_mayTell 14 = .ok (.invokevirtual 129, 3) := by decide +kernel
theorem dX6_mayTell_17 : decode cX6_mayTell 17 = .ok (.ifCond .eq 7, 3) := by decide +kernel
theorem dX6_mayTell_20 : decode cX6_mayTell 20 = .ok (.iconst 1, 1) := by decide +kernel
theorem dX6_mayTell_21 : decode cX6_mayTell 21 = .ok (.goto 4, 3) := by decide +kernel
theorem dX6_mayTell_24 : decode cX6_mayTell 24 = .ok (.iconst 0, 1) := by decide +kernel
theorem dX6_mayTell_25 : decode cX6_mayTell 25 = .ok (.ireturn, 1) := by decide +kernel
set_option maxRecDepth 20000 in
theorem ggX6_shareRow_X6_isIn : GoodIn wsX6_shareRow wsX6_isIn := goodIn_r _ [6, 7, 8, 9, 10, 5, 11, 12, 13, 14, 15, 16, 17, 18, 19, 20, 21, 22, 23, 24, 25, 26, 27, 28, 29, 30] (by decide +kernel) (by decide +kernel)
set_option maxRecDepth 20000 in
theorem gX6_shareRow_X6_isIn : GoodIn wsX6_shareRow (wsV RX6 69 RX6 yX6_isIn wsX6_isIn) := goodIn_app (goodIn_of _ (by decide +kernel)) ggX6_shareRow_X6_isIn
theorem dX6_shareRow_0 : decode cX6_shareRow 0 = .ok (.iconst 0, 1) := by decide +kernel
theorem dX6_shareRow_1 : decode cX6_shareRow 1 = .ok (.istore_n 3, 1) := by decide +kernel
theorem dX6_shareRow_2 : decode cX6_shareRow 2 = .ok (.iload_n 3, 1) := by decide +kernel
theorem dX6_shareRow_3 : decode cX6_shareRow 3 = .ok (.aload_n 0, 1) := by decide +kernel
theorem dX6_shareRow_4 : decode cX6_shareRow 4 = .ok (.getfield 54, 3) := by decide +kernel
theorem dX6_shareRow_7 : decode cX6_shareRow 7 = .ok (.if_icmp .ge 29, 3) := by decide +kernel
theorem dX6_shareRow_10 : decode cX6_shareRow 10 = .ok (.aload_n 0, 1) := by decide +kernel
theorem dX6_shareRow_11 : decode cX6_shareRow 11 = .ok (.iload_n 3, 1) := by decide +kernel
theorem dX6_shareRow_12 : decode cX6_shareRow 12 = .ok (.iload_n 1, 1) := by decide +kernel
theorem dX6_shareRow_13 : decode cX6_shareRow 13 = .ok (.invokevirtual 69, 3) := by decide +kernel
theorem dX6_shareRow_16 : decode cX6_shareRow 16 = .ok (.ifCond .eq 14, 3) := by decide +kernel
theorem dX6_shareRow_19 : decode cX6_shareRow 19 = .ok (.aload_n 0, 1) := by decide +kernel
theorem dX6_shareRow_20 : decode cX6_shareRow 20 = .ok (.iload_n 3, 1) := by decide +kernel
theorem dX6_shareRow_21 : decode cX6_shareRow 21 = .ok (.iload_n 2, 1) := by decide +kernel
theorem dX6_shareRow_22 : decode cX6_shareRow 22 = .ok (.invokevirtual 69, 3) := by decide +kernel
theorem dX6_shareRow_25 : decode cX6_shareRow 25 = .ok (.ifCond .eq 5, 3) := by decide +kernel
theorem dX6_shareRow_28 : decode cX6_shareRow 28 = .ok (.iconst 1, 1) := by decide +kernel
theorem dX6_shareRow_29 : decode cX6_shareRow 29 = .ok (.ireturn, 1) := by decide +kernel
theorem dX6_shareRow_30 : decode cX6_shareRow 30 = .ok (.iinc 3 1, 3) := by decide +kernel
theorem dX6_shareRow_33 : decode cX6_shareRow 33 = .ok (.goto (-31), 3) := by decide +kernel
theorem dX6_shareRow_36 : decode cX6_shareRow 36 = .ok (.iconst 0, 1) := by decide +kernel
theorem dX6_shareRow_37 : decode cX6_shareRow 37 = .ok (.ireturn, 1) := by decide +kernel
set_option maxRecDepth 20000 in
theorem ggX6_rest_X6_changed : GoodIn wsX6_rest wsX6_changed := goodIn_r _ [6, 7, 8, 9, 5, 10, 11, 12, 13, 14, 15, 16, 17, 18, 19, 20, 21, 22, 23, 24, 25, 26, 27, 28, 29, 30, 31, 32, 33, 34, 35, 36, 37, 38, 39, 40, 41, 42, 43, 44, 45, 46, 47] (by decide +kernel) (by decide +kernel)
set_option maxRecDepth 20000 in
theorem gX6_rest_X6_changed : GoodIn wsX6_rest (wsV RX6 84 RX6 yX6_changed wsX6_changed) := goodIn_app (goodIn_of _ (by decide +kernel)) ggX6_rest_X6_changed
theorem dX6_rest_0 : decode cX6_rest 0 = .ok (.aload_n 0, 1) := by decide +kernel
theorem dX6_rest_1 : decode cX6_rest 1 = .ok (.iconst 0, 1) := by decide +kernel
theorem dX6_rest_2 : decode cX6_rest 2 = .ok (.iconst 0, 1) := by decide +kernel
theorem dX6_rest_3 : decode cX6_rest 3 = .ok (.invokevirtual 84, 3) := by decide +kernel
theorem dX6_rest_6 : decode cX6_rest 6 = .ok (.aload_n 0, 1) := by decide +kernel
theorem dX6_rest_7 : decode cX6_rest 7 = .ok (.getfield 123, 3) := by decide +kernel
theorem dX6_rest_10 : decode cX6_rest 10 = .ok (.isub, 1) := by decide +kernel
theorem dX6_rest_11 : decode cX6_rest 11 = .ok (.ireturn, 1) := by decide +kernel
theorem dX6_tolled_0 : decode cX6_tolled 0 = .ok (.iload_n 0, 1) := by decide +kernel
theorem dX6_tolled_1 : decode cX6_tolled 1 = .ok (.ifCond .ge 8, 3) := by decide +kernel
theorem dX6_tolled_4 : decode cX6_tolled 4 = .ok (.iload_n 0, 1) := by decide +kernel
theorem dX6_tolled_5 : decode cX6_tolled 5 = .ok (.ineg, 1) := by decide +kernel
theorem dX6_tolled_6 : decode cX6_tolled 6 = .ok (.goto 4, 3) := by decide +kernel
theorem dX6_tolled_9 : decode cX6_tolled 9 = .ok (.iload_n 0, 1) := by decide +kernel
theorem dX6_tolled_10 : decode cX6_tolled 10 = .ok (.iload_n 2, 1) := by decide +kernel
theorem dX6_tolled_11 : decode cX6_tolled 11 = .ok (.iload_n 1, 1) := by decide +kernel
theorem dX6_tolled_12 : decode cX6_tolled 12 = .ok (.imul, 1) := by decide +kernel
theorem dX6_tolled_13 : decode cX6_tolled 13 = .ok (.iadd, 1) := by decide +kernel
theorem dX6_tolled_14 : decode cX6_tolled 14 = .ok (.ireturn, 1) := by decide +kernel
set_option maxRecDepth 20000 in
theorem ggX6_seek_X6_in : GoodIn wsX6_seek wsX6_in := goodIn_r _ [10] (by decide +kernel) (by decide +kernel)
set_option maxRecDepth 20000 in
theorem gX6_seek_X6_in : GoodIn wsX6_seek (va_wsS RX6 57 yX6_in wsX6_in) := goodIn_app (goodIn_of _ (by decide +kernel)) ggX6_seek_X6_in
set_option maxRecDepth 20000 in
theorem ggX6_seek_X6_mayTell : GoodIn wsX6_seek wsX6_mayTell := goodIn_r _ [14, 15, 16, 9, 17, 18, 19, 20, 7, 8, 10, 21, 22, 23, 24, 25, 26, 27, 28, 29, 30, 31, 64, 65, 66, 67, 68, 69, 70, 71, 72, 73, 74, 75, 76, 77, 78, 79, 80, 81, 82] (by decide +kernel) (by decide +kernel)
set_option maxRecDepth 20000 in
theorem gX6_seek_X6_mayTell : GoodIn wsX6_seek (wsV RX6 132 RX6 yX6_mayTell wsX6_mayTell) := goodIn_app (goodIn_of _ (by decide +kernel)) ggX6_seek_X6_mayTell
set_option maxRecDepth 20000 in
theorem ggX6_seek_X6_changed : GoodIn wsX6_seek wsX6_changed := goodIn_r _ [35, 36, 37, 38, 9, 39, 25, 40, 41, 42, 26, 27, 28, 29, 30, 31, 18, 19, 20, 43, 44, 45, 46, 47, 64, 65, 66, 67, 68, 69, 70, 71, 72, 73, 74, 75, 76, 77, 78, 79, 80, 81, 82] (by decide +kernel) (by decide +kernel)
set_option maxRecDepth 20000 in
theorem gX6_seek_X6_changed : GoodIn wsX6_seek (wsV RX6 84 RX6 yX6_changed wsX6_changed) := goodIn_app (goodIn_of _ (by decide +kernel)) ggX6_seek_X6_changed
set_option maxRecDepth 20000 in
theorem ggX6_seek_X6_rest : GoodIn wsX6_seek wsX6_rest := goodIn_r _ [51, 52, 32, 33, 34, 9, 35, 36, 37, 38, 39, 25, 40, 41, 42, 26, 27, 28, 29, 30, 31, 18, 19, 20, 43, 44, 45, 46, 47, 64, 65, 66, 67, 68, 69, 70, 71, 72, 73, 74, 75, 76, 77, 78, 79, 80, 81, 82] (by decide +kernel) (by decide +kernel)
set_option maxRecDepth 20000 in
theorem gX6_seek_X6_rest : GoodIn wsX6_seek (wsV RX6 135 RX6 yX6_rest wsX6_rest) := goodIn_app (goodIn_of _ (by decide +kernel)) ggX6_seek_X6_rest
set_option maxRecDepth 20000 in
theorem ggX6_seek_X6_tolled : GoodIn wsX6_seek wsX6_tolled := goodIn_r _ [55] (by decide +kernel) (by decide +kernel)
set_option maxRecDepth 20000 in
theorem gX6_seek_X6_tolled : GoodIn wsX6_seek (va_wsS RX6 139 yX6_tolled wsX6_tolled) := goodIn_app (goodIn_of _ (by decide +kernel)) ggX6_seek_X6_tolled
set_option maxRecDepth 20000 in
theorem ggX6_seek_X6_tests : GoodIn wsX6_seek wsX6_tests := goodIn_r _ [17, 18, 19, 9, 20] (by decide +kernel) (by decide +kernel)
set_option maxRecDepth 20000 in
theorem gX6_seek_X6_tests : GoodIn wsX6_seek (va_wsS RX6 126 yX6_tests wsX6_tests) := goodIn_app (goodIn_of _ (by decide +kernel)) ggX6_seek_X6_tests
set_option maxRecDepth 20000 in
theorem ggX6_seek_X6_tells : GoodIn wsX6_seek wsX6_tells := goodIn_r _ [59, 3, 4, 5, 6, 64, 65, 66, 67, 68, 69, 70, 71, 72, 73, 74, 75, 76, 77, 78, 79, 80, 81, 82] (by decide +kernel) (by decide +kernel)
set_option maxRecDepth 20000 in
theorem gX6_seek_X6_tells : GoodIn wsX6_seek (wsV RX6 151 RX6 yX6_tells wsX6_tells) := goodIn_app (goodIn_of _ (by decide +kernel)) ggX6_seek_X6_tells
set_option maxRecDepth 20000 in
theorem ggX6_seek_X6_shareRow : GoodIn wsX6_seek wsX6_shareRow := goodIn_r _ [63, 25, 26, 27, 28, 9, 29, 30, 31, 18, 19, 20, 64, 65, 66, 67, 68, 69, 70, 71, 72, 73, 74, 75, 76, 77, 78, 79, 80, 81, 82] (by decide +kernel) (by decide +kernel)
set_option maxRecDepth 20000 in
theorem gX6_seek_X6_shareRow : GoodIn wsX6_seek (wsV RX6 155 RX6 yX6_shareRow wsX6_shareRow) := goodIn_app (goodIn_of _ (by decide +kernel)) ggX6_seek_X6_shareRow
theorem dX6_seek_0 : decode cX6_seek 0 = .ok (.iload_n 1, 1) := by decide +kernel
theorem dX6_seek_1 : decode cX6_seek 1 = .ok (.iconst 0, 1) := by decide +kernel
theorem dX6_seek_2 : decode cX6_seek 2 = .ok (.sipush 1000, 3) := by decide +kernel
theorem dX6_seek_5 : decode cX6_seek 5 = .ok (.invokestatic 57, 3) := by decide +kernel
theorem dX6_seek_8 : decode cX6_seek 8 = .ok (.ifCond .eq 12, 3) := by decide +kernel
theorem dX6_seek_11 : decode cX6_seek 11 = .ok (.iload_n 2, 1) := by decide +kernel
theorem dX6_seek_12 : decode cX6_seek 12 = .ok (.iconst 0, 1) := by decide +kernel
theorem dX6_seek_13 : decode cX6_seek 13 = .ok (.iconst 2, 1) := by decide +kernel
theorem dX6_seek_14 : decode cX6_seek 14 = .ok (.invokestatic 57, 3) := by decide +kernel
theorem dX6_seek_17 : decode cX6_seek 17 = .ok (.ifCond .ne 5, 3) := by decide +kernel
theorem dX6_seek_20 : decode cX6_seek 20 = .ok (.iconst (-1), 1) := by decide +kernel
theorem dX6_seek_21 : decode cX6_seek 21 = .ok (.ireturn, 1) := by decide +kernel
theorem dX6_seek_22 : decode cX6_seek 22 = .ok (.iconst 0, 1) := by decide +kernel
theorem dX6_seek_23 : decode cX6_seek 23 = .ok (.istore_n 3, 1) := by decide +kernel
theorem dX6_seek_24 : decode cX6_seek 24 = .ok (.iconst 1, 1) := by decide +kernel
theorem dX6_seek_25 : decode cX6_seek 25 = .ok (.istore 4, 2) := by decide +kernel
theorem dX6_seek_27 : decode cX6_seek 27 = .ok (.iload 4, 2) := by decide +kernel
theorem dX6_seek_29 : decode cX6_seek 29 = .ok (.sipush 729, 3) := by decide +kernel
theorem dX6_seek_32 : decode cX6_seek 32 = .ok (.if_icmp .ge 46, 3) := by decide +kernel
theorem dX6_seek_35 : decode cX6_seek 35 = .ok (.iload_n 2, 1) := by decide +kernel
theorem dX6_seek_36 : decode cX6_seek 36 = .ok (.ifCond .le 42, 3) := by decide +kernel
theorem dX6_seek_39 : decode cX6_seek 39 = .ok (.aload_n 0, 1) := by decide +kernel
theorem dX6_seek_40 : decode cX6_seek 40 = .ok (.iload 4, 2) := by decide +kernel
theorem dX6_seek_42 : decode cX6_seek 42 = .ok (.invokevirtual 132, 3) := by decide +kernel
theorem dX6_seek_45 : decode cX6_seek 45 = .ok (.ifCond .eq 27, 3) := by decide +kernel
theorem dX6_seek_48 : decode cX6_seek 48 = .ok (.aload_n 0, 1) := by decide +kernel
theorem dX6_seek_49 : decode cX6_seek 49 = .ok (.getfield 48, 3) := by decide +kernel
theorem dX6_seek_52 : decode cX6_seek 52 = .ok (.iload_n 3, 1) := by decide +kernel
theorem dX6_seek_53 : decode cX6_seek 53 = .ok (.iload 4, 2) := by decide +kernel
theorem dX6_seek_55 : decode cX6_seek 55 = .ok (.iastore, 1) := by decide +kernel
theorem dX6_seek_56 : decode cX6_seek 56 = .ok (.aload_n 0, 1) := by decide +kernel
theorem dX6_seek_57 : decode cX6_seek 57 = .ok (.getfield 51, 3) := by decide +kernel
theorem dX6_seek_60 : decode cX6_seek 60 = .ok (.iload_n 3, 1) := by decide +kernel
theorem dX6_seek_61 : decode cX6_seek 61 = .ok (.aload_n 0, 1) := by decide +kernel
theorem dX6_seek_62 : decode cX6_seek 62 = .ok (.iload 4, 2) := by decide +kernel
theorem dX6_seek_64 : decode cX6_seek 64 = .ok (.iconst 0, 1) := by decide +kernel
theorem dX6_seek_65 : decode cX6_seek 65 = .ok (.invokevirtual 84, 3) := by decide +kernel
theorem dX6_seek_68 : decode cX6_seek 68 = .ok (.iastore, 1) := by decide +kernel
theorem dX6_seek_69 : decode cX6_seek 69 = .ok (.iinc 3 1, 3) := by decide +kernel
theorem dX6_seek_72 : decode cX6_seek 72 = .ok (.iinc 4 1, 3) := by decide +kernel
theorem dX6_seek_75 : decode cX6_seek 75 = .ok (.goto (-48), 3) := by decide +kernel
theorem dX6_seek_78 : decode cX6_seek 78 = .ok (.aload_n 0, 1) := by decide +kernel
theorem dX6_seek_79 : decode cX6_seek 79 = .ok (.invokevirtual 135, 3) := by decide +kernel
theorem dX6_seek_82 : decode cX6_seek 82 = .ok (.istore 4, 2) := by decide +kernel
theorem dX6_seek_84 : decode cX6_seek 84 = .ok (.iload 4, 2) := by decide +kernel
theorem dX6_seek_86 : decode cX6_seek 86 = .ok (.iconst 0, 1) := by decide +kernel
theorem dX6_seek_87 : decode cX6_seek 87 = .ok (.iload_n 1, 1) := by decide +kernel
theorem dX6_seek_88 : decode cX6_seek 88 = .ok (.invokestatic 139, 3) := by decide +kernel
theorem dX6_seek_91 : decode cX6_seek 91 = .ok (.istore 5, 2) := by decide +kernel
theorem dX6_seek_93 : decode cX6_seek 93 = .ok (.aload_n 0, 1) := by decide +kernel
theorem dX6_seek_94 : decode cX6_seek 94 = .ok (.iconst 0, 1) := by decide +kernel
theorem dX6_seek_95 : decode cX6_seek 95 = .ok (.putfield 38, 3) := by decide +kernel
theorem dX6_seek_98 : decode cX6_seek 98 = .ok (.aload_n 0, 1) := by decide +kernel
theorem dX6_seek_99 : decode cX6_seek 99 = .ok (.iconst (-1), 1) := by decide +kernel
theorem dX6_seek_100 : decode cX6_seek 100 = .ok (.putfield 142, 3) := by decide +kernel
theorem dX6_seek_103 : decode cX6_seek 103 = .ok (.aload_n 0, 1) := by decide +kernel
theorem dX6_seek_104 : decode cX6_seek 104 = .ok (.iconst (-1), 1) := by decide +kernel
theorem dX6_seek_105 : decode cX6_seek 105 = .ok (.putfield 145, 3) := by decide +kernel
theorem dX6_seek_108 : decode cX6_seek 108 = .ok (.aload_n 0, 1) := by decide +kernel
theorem dX6_seek_109 : decode cX6_seek 109 = .ok (.iload 4, 2) := by decide +kernel
theorem dX6_seek_111 : decode cX6_seek 111 = .ok (.putfield 148, 3) := by decide +kernel
theorem dX6_seek_114 : decode cX6_seek 114 = .ok (.iconst 0, 1) := by decide +kernel
theorem dX6_seek_115 : decode cX6_seek 115 = .ok (.istore 6, 2) := by decide +kernel
theorem dX6_seek_117 : decode cX6_seek 117 = .ok (.iload 6, 2) := by decide +kernel
theorem dX6_seek_119 : decode cX6_seek 119 = .ok (.iload_n 3, 1) := by decide +kernel
theorem dX6_seek_120 : decode cX6_seek 120 = .ok (.if_icmp .ge 69, 3) := by decide +kernel
theorem dX6_seek_123 : decode cX6_seek 123 = .ok (.iload 4, 2) := by decide +kernel
theorem dX6_seek_125 : decode cX6_seek 125 = .ok (.aload_n 0, 1) := by decide +kernel
theorem dX6_seek_126 : decode cX6_seek 126 = .ok (.getfield 51, 3) := by decide +kernel
theorem dX6_seek_129 : decode cX6_seek 129 = .ok (.iload 6, 2) := by decide +kernel
theorem dX6_seek_131 : decode cX6_seek 131 = .ok (.iaload, 1) := by decide +kernel
theorem dX6_seek_132 : decode cX6_seek 132 = .ok (.isub, 1) := by decide +kernel
theorem dX6_seek_133 : decode cX6_seek 133 = .ok (.aload_n 0, 1) := by decide +kernel
theorem dX6_seek_134 : decode cX6_seek 134 = .ok (.getfield 48, 3) := by decide +kernel
theorem dX6_seek_137 : decode cX6_seek 137 = .ok (.iload 6, 2) := by decide +kernel
theorem dX6_seek_139 : decode cX6_seek 139 = .ok (.iaload, 1) := by decide +kernel
theorem dX6_seek_140 : decode cX6_seek 140 = .ok (.invokestatic 126, 3) := by decide +kernel
theorem dX6_seek_143 : decode cX6_seek 143 = .ok (.iload_n 1, 1) := by decide +kernel
theorem dX6_seek_144 : decode cX6_seek 144 = .ok (.invokestatic 139, 3) := by decide +kernel
theorem dX6_seek_147 : decode cX6_seek 147 = .ok (.istore 7, 2) := by decide +kernel
theorem dX6_seek_149 : decode cX6_seek 149 = .ok (.iload 7, 2) := by decide +kernel
theorem dX6_seek_151 : decode cX6_seek 151 = .ok (.iload 5, 2) := by decide +kernel
theorem dX6_seek_153 : decode cX6_seek 153 = .ok (.if_icmp .ge 30, 3) := by decide +kernel
theorem dX6_seek_156 : decode cX6_seek 156 = .ok (.iload 7, 2) := by decide +kernel
theorem dX6_seek_158 : decode cX6_seek 158 = .ok (.istore 5, 2) := by decide +kernel
theorem dX6_seek_160 : decode cX6_seek 160 = .ok (.aload_n 0, 1) := by decide +kernel
theorem dX6_seek_161 : decode cX6_seek 161 = .ok (.iconst 1, 1) := by decide +kernel
theorem dX6_seek_162 : decode cX6_seek 162 = .ok (.aload_n 0, 1) := by decide +kernel
theorem dX6_seek_163 : decode cX6_seek 163 = .ok (.getfield 48, 3) := by decide +kernel
theorem dX6_seek_166 : decode cX6_seek 166 = .ok (.iload 6, 2) := by decide +kernel
theorem dX6_seek_168 : decode cX6_seek 168 = .ok (.iaload, 1) := by decide +kernel
theorem dX6_seek_169 : decode cX6_seek 169 = .ok (.iconst (-1), 1) := by decide +kernel
theorem dX6_seek_170 : decode cX6_seek 170 = .ok (.iload 4, 2) := by decide +kernel
theorem dX6_seek_172 : decode cX6_seek 172 = .ok (.aload_n 0, 1) := by decide +kernel
theorem dX6_seek_173 : decode cX6_seek 173 = .ok (.getfield 51, 3) := by decide +kernel
theorem dX6_seek_176 : decode cX6_seek 176 = .ok (.iload 6, 2) := by decide +kernel
theorem dX6_seek_178 : decode cX6_seek 178 = .ok (.iaload, 1) := by decide +kernel
theorem dX6_seek_179 : decode cX6_seek 179 = .ok (.isub, 1) := by decide +kernel
theorem dX6_seek_180 : decode cX6_seek 180 = .ok (.invokevirtual 151, 3) := by decide +kernel
theorem dX6_seek_183 : decode cX6_seek 183 = .ok (.iinc 6 1, 3) := by decide +kernel
theorem dX6_seek_186 : decode cX6_seek 186 = .ok (.goto (-69), 3) := by decide +kernel
theorem dX6_seek_189 : decode cX6_seek 189 = .ok (.iconst 0, 1) := by decide +kernel
theorem dX6_seek_190 : decode cX6_seek 190 = .ok (.istore 6, 2) := by decide +kernel
theorem dX6_seek_192 : decode cX6_seek 192 = .ok (.iload 6, 2) := by decide +kernel
theorem dX6_seek_194 : decode cX6_seek 194 = .ok (.iload_n 3, 1) := by decide +kernel
theorem dX6_seek_195 : decode cX6_seek 195 = .ok (.if_icmp .ge 134, 3) := by decide +kernel
theorem dX6_seek_198 : decode cX6_seek 198 = .ok (.iload_n 2, 1) := by decide +kernel
theorem dX6_seek_199 : decode cX6_seek 199 = .ok (.iconst 2, 1) := by decide +kernel
theorem dX6_seek_200 : decode cX6_seek 200 = .ok (.if_icmp .ne 129, 3) := by decide +kernel
theorem dX6_seek_203 : decode cX6_seek 203 = .ok (.iload 6, 2) := by decide +kernel
theorem dX6_seek_205 : decode cX6_seek 205 = .ok (.iconst 1, 1) := by decide +kernel
theorem dX6_seek_206 : decode cX6_seek 206 = .ok (.iadd, 1) := by decide +kernel
theorem dX6_seek_207 : decode cX6_seek 207 = .ok (.istore 7, 2) := by decide +kernel
theorem dX6_seek_209 : decode cX6_seek 209 = .ok (.iload 7, 2) := by decide +kernel
theorem dX6_seek_211 : decode cX6_seek 211 = .ok (.iload_n 3, 1) := by decide +kernel
theorem dX6_seek_212 : decode cX6_seek 212 = .ok (.if_icmp .ge 111, 3) := by decide +kernel
theorem dX6_seek_215 : decode cX6_seek 215 = .ok (.iload 4, 2) := by decide +kernel
theorem dX6_seek_217 : decode cX6_seek 217 = .ok (.aload_n 0, 1) := by decide +kernel
theorem dX6_seek_218 : decode cX6_seek 218 = .ok (.getfield 51, 3) := by decide +kernel
theorem dX6_seek_221 : decode cX6_seek 221 = .ok (.iload 6, 2) := by decide +kernel
theorem dX6_seek_223 : decode cX6_seek 223 = .ok (.iaload, 1) := by decide +kernel
theorem dX6_seek_224 : decode cX6_seek 224 = .ok (.isub, 1) := by decide +kernel
theorem dX6_seek_225 : decode cX6_seek 225 = .ok (.aload_n 0, 1) := by decide +kernel
theorem dX6_seek_226 : decode cX6_seek 226 = .ok (.getfield 51, 3) := by decide +kernel
theorem dX6_seek_229 : decode cX6_seek 229 = .ok (.iload 7, 2) := by decide +kernel
theorem dX6_seek_231 : decode cX6_seek 231 = .ok (.iaload, 1) := by decide +kernel
theorem dX6_seek_232 : decode cX6_seek 232 = .ok (.isub, 1) := by decide +kernel
theorem dX6_seek_233 : decode cX6_seek 233 = .ok (.istore 8, 2) := by decide +kernel
theorem dX6_seek_235 : decode cX6_seek 235 = .ok (.iload 8, 2) := by decide +kernel
theorem dX6_seek_237 : decode cX6_seek 237 = .ok (.aload_n 0, 1) := by decide +kernel
theorem dX6_seek_238 : decode cX6_seek 238 = .ok (.getfield 48, 3) := by decide +kernel
theorem dX6_seek_241 : decode cX6_seek 241 = .ok (.iload 6, 2) := by decide +kernel
theorem dX6_seek_243 : decode cX6_seek 243 = .ok (.iaload, 1) := by decide +kernel
theorem dX6_seek_244 : decode cX6_seek 244 = .ok (.invokestatic 126, 3) := by decide +kernel
theorem dX6_seek_247 : decode cX6_seek 247 = .ok (.aload_n 0, 1) := by decide +kernel
theorem dX6_seek_248 : decode cX6_seek 248 = .ok (.getfield 48, 3) := by decide +kernel
theorem dX6_seek_251 : decode cX6_seek 251 = .ok (.iload 7, 2) := by decide +kernel
theorem dX6_seek_253 : decode cX6_seek 253 = .ok (.iaload, 1) := by decide +kernel
theorem dX6_seek_254 : decode cX6_seek 254 = .ok (.invokestatic 126, 3) := by decide +kernel
theorem dX6_seek_257 : decode cX6_seek 257 = .ok (.iadd, 1) := by decide +kernel
theorem dX6_seek_258 : decode cX6_seek 258 = .ok (.iload_n 1, 1) := by decide +kernel
theorem dX6_seek_259 : decode cX6_seek 259 = .ok (.invokestatic 139, 3) := by decide +kernel
theorem dX6_seek_262 : decode cX6_seek 262 = .ok (.istore 9, 2) := by decide +kernel
theorem dX6_seek_264 : decode cX6_seek 264 = .ok (.iload 9, 2) := by decide +kernel
theorem dX6_seek_266 : decode cX6_seek 266 = .ok (.iload 5, 2) := by decide +kernel
theorem dX6_seek_268 : decode cX6_seek 268 = .ok (.if_icmp .ge 49, 3) := by decide +kernel
theorem dX6_seek_271 : decode cX6_seek 271 = .ok (.aload_n 0, 1) := by decide +kernel
theorem dX6_seek_272 : decode cX6_seek 272 = .ok (.aload_n 0, 1) := by decide +kernel
theorem dX6_seek_273 : decode cX6_seek 273 = .ok (.getfield 48, 3) := by decide +kernel
theorem dX6_seek_276 : decode cX6_seek 276 = .ok (.iload 6, 2) := by decide +kernel
theorem dX6_seek_278 : decode cX6_seek 278 = .ok (.iaload, 1) := by decide +kernel
theorem dX6_seek_279 : decode cX6_seek 279 = .ok (.aload_n 0, 1) := by decide +kernel
theorem dX6_seek_280 : decode cX6_seek 280 = .ok (.getfield 48, 3) := by decide +kernel
theorem dX6_seek_283 : decode cX6_seek 283 = .ok (.iload 7, 2) := by decide +kernel
theorem dX6_seek_285 : decode cX6_seek 285 = .ok (.iaload, 1) := by decide +kernel
theorem dX6_seek_286 : decode cX6_seek 286 = .ok (.invokevirtual 155, 3) := by decide +kernel
theorem dX6_seek_289 : decode cX6_seek 289 = .ok (.ifCond .ne 28, 3) := by decide +kernel
theorem dX6_seek_292 : decode cX6_seek 292 = .ok (.iload 9, 2) := by decide +kernel
theorem dX6_seek_294 : decode cX6_seek 294 = .ok (.istore 5, 2) := by decide +kernel
theorem dX6_seek_296 : decode cX6_seek 296 = .ok (.aload_n 0, 1) := by decide +kernel
theorem dX6_seek_297 : decode cX6_seek 297 = .ok (.iconst 2, 1) := by decide +kernel
theorem dX6_seek_298 : decode cX6_seek 298 = .ok (.aload_n 0, 1) := by decide +kernel
theorem dX6_seek_299 : decode cX6_seek 299 = .ok (.getfield 48, 3) := by decide +kernel
theorem dX6_seek_302 : decode cX6_seek 302 = .ok (.iload 6, 2) := by decide +kernel
theorem dX6_seek_304 : decode cX6_seek 304 = .ok (.iaload, 1) := by decide +kernel
theorem dX6_seek_305 : decode cX6_seek 305 = .ok (.aload_n 0, 1) := by decide +kernel
theorem dX6_seek_306 : decode cX6_seek 306 = .ok (.getfield 48, 3) := by decide +kernel
theorem dX6_seek_309 : decode cX6_seek 309 = .ok (.iload 7, 2) := by decide +kernel
theorem dX6_seek_311 : decode cX6_seek 311 = .ok (.iaload, 1) := by decide +kernel
theorem dX6_seek_312 : decode cX6_seek 312 = .ok (.iload 8, 2) := by decide +kernel
theorem dX6_seek_314 : decode cX6_seek 314 = .ok (.invokevirtual 151, 3) := by decide +kernel
theorem dX6_seek_317 : decode cX6_seek 317 = .ok (.iinc 7 1, 3) := by decide +kernel
theorem dX6_seek_320 : decode cX6_seek 320 = .ok (.goto (-111), 3) := by decide +kernel
theorem dX6_seek_323 : decode cX6_seek 323 = .ok (.iinc 6 1, 3) := by decide +kernel
theorem dX6_seek_326 : decode cX6_seek 326 = .ok (.goto (-134), 3) := by decide +kernel
theorem dX6_seek_329 : decode cX6_seek 329 = .ok (.iload 5, 2) := by decide +kernel
theorem dX6_seek_331 : decode cX6_seek 331 = .ok (.ireturn, 1) := by decide +kernel
theorem dX6_tells_0 : decode cX6_tells 0 = .ok (.aload_n 0, 1) := by decide +kernel
theorem dX6_tells_1 : decode cX6_tells 1 = .ok (.iload_n 1, 1) := by decide +kernel
theorem dX6_tells_2 : decode cX6_tells 2 = .ok (.putfield 38, 3) := by decide +kernel
theorem dX6_tells_5 : decode cX6_tells 5 = .ok (.aload_n 0, 1) := by decide +kernel
theorem dX6_tells_6 : decode cX6_tells 6 = .ok (.iload_n 2, 1) := by decide +kernel
theorem dX6_tells_7 : decode cX6_tells 7 = .ok (.putfield 142, 3) := by decide +kernel
theorem dX6_tells_10 : decode cX6_tells 10 = .ok (.aload_n 0, 1) := by decide +kernel
theorem dX6_tells_11 : decode cX6_tells 11 = .ok (.iload_n 3, 1) := by decide +kernel
theorem dX6_tells_12 : decode cX6_tells 12 = .ok (.putfield 145, 3) := by decide +kernel
theorem dX6_tells_15 : decode cX6_tells 15 = .ok (.aload_n 0, 1) := by decide +kernel
theorem dX6_tells_16 : decode cX6_tells 16 = .ok (.iload 4, 2) := by decide +kernel
theorem dX6_tells_18 : decode cX6_tells 18 = .ok (.putfield 148, 3) := by decide +kernel
theorem dX6_tells_21 : decode cX6_tells 21 = .ok (.return_, 1) := by decide +kernel
set_option maxRecDepth 20000 in
theorem ggX6_story_X6_in : GoodIn wsX6_story wsX6_in := goodIn_r _ [9] (by decide +kernel) (by decide +kernel)
set_option maxRecDepth 20000 in
theorem gX6_story_X6_in : GoodIn wsX6_story (va_wsS RX6 57 yX6_in wsX6_in) := goodIn_app (goodIn_of _ (by decide +kernel)) ggX6_story_X6_in
theorem dX6_story_0 : decode cX6_story 0 = .ok (.aload_n 0, 1) := by decide +kernel
theorem dX6_story_1 : decode cX6_story 1 = .ok (.getfield 38, 3) := by decide +kernel
theorem dX6_story_4 : decode cX6_story 4 = .ok (.iconst (-1), 1) := by decide +kernel
theorem dX6_story_5 : decode cX6_story 5 = .ok (.if_icmp .eq 12, 3) := by decide +kernel
theorem dX6_story_8 : decode cX6_story 8 = .ok (.iload_n 1, 1) := by decide +kernel
theorem dX6_story_9 : decode cX6_story 9 = .ok (.iconst 0, 1) := by decide +kernel
theorem dX6_story_10 : decode cX6_story 10 = .ok (.iconst 3, 1) := by decide +kernel
theorem dX6_story_11 : decode cX6_story 11 = .ok (.invokestatic 57, 3) := by decide +kernel
theorem dX6_story_14 : decode cX6_story 14 = .ok (.ifCond .ne 6, 3) := by decide +kernel
theorem dX6_story_17 : decode cX6_story 17 = .ok (.ldc 83, 2) := by decide +kernel
theorem dX6_story_19 : decode cX6_story 19 = .ok (.ireturn, 1) := by decide +kernel
theorem dX6_story_20 : decode cX6_story 20 = .ok (.iload_n 1, 1) := by decide +kernel
theorem dX6_story_21 : decode cX6_story 21 = .ok (.ifCond .ne 10, 3) := by decide +kernel
theorem dX6_story_24 : decode cX6_story 24 = .ok (.aload_n 0, 1) := by decide +kernel
theorem dX6_story_25 : decode cX6_story 25 = .ok (.getfield 38, 3) := by decide +kernel
theorem dX6_story_28 : decode cX6_story 28 = .ok (.goto 31, 3) := by decide +kernel
theorem dX6_story_31 : decode cX6_story 31 = .ok (.iload_n 1, 1) := by decide +kernel
theorem dX6_story_32 : decode cX6_story 32 = .ok (.iconst 1, 1) := by decide +kernel
theorem dX6_story_33 : decode cX6_story 33 = .ok (.if_icmp .ne 10, 3) := by decide +kernel
theorem dX6_story_36 : decode cX6_story 36 = .ok (.aload_n 0, 1) := by decide +kernel
theorem dX6_story_37 : decode cX6_story 37 = .ok (.getfield 142, 3) := by decide +kernel
theorem dX6_story_40 : decode cX6_story 40 = .ok (.goto 19, 3) := by decide +kernel
theorem dX6_story_43 : decode cX6_story 43 = .ok (.iload_n 1, 1) := by decide +kernel
theorem dX6_story_44 : decode cX6_story 44 = .ok (.iconst 2, 1) := by decide +kernel
theorem dX6_story_45 : decode cX6_story 45 = .ok (.if_icmp .ne 10, 3) := by decide +kernel
theorem dX6_story_48 : decode cX6_story 48 = .ok (.aload_n 0, 1) := by decide +kernel
theorem dX6_story_49 : decode cX6_story 49 = .ok (.getfield 145, 3) := by decide +kernel
theorem dX6_story_52 : decode cX6_story 52 = .ok (.goto 7, 3) := by decide +kernel
theorem dX6_story_55 : decode cX6_story 55 = .ok (.aload_n 0, 1) := by decide +kernel
theorem dX6_story_56 : decode cX6_story 56 = .ok (.getfield 148, 3) := by decide +kernel
theorem dX6_story_59 : decode cX6_story 59 = .ok (.ireturn, 1) := by decide +kernel
set_option maxRecDepth 20000 in
theorem ggX6_toll_X6_isHeap : GoodIn wsX6_toll wsX6_isHeap := goodIn_r _ [4, 5, 6, 3, 7] (by decide +kernel) (by decide +kernel)
set_option maxRecDepth 20000 in
theorem gX6_toll_X6_isHeap : GoodIn wsX6_toll (va_wsS RX6 80 yX6_isHeap wsX6_isHeap) := goodIn_app (goodIn_of _ (by decide +kernel)) ggX6_toll_X6_isHeap
set_option maxRecDepth 20000 in
theorem ggX6_toll_X6_mayTell : GoodIn wsX6_toll wsX6_mayTell := goodIn_r _ [11, 12, 13, 3, 14, 15, 16, 17, 5, 6, 7, 18, 19, 20, 21, 22, 23, 24, 25, 26, 27, 28, 57, 58, 59, 60, 61, 62, 63, 64, 65, 66, 67, 68, 69, 70, 71, 72, 73, 74, 75] (by decide +kernel) (by decide +kernel)
set_option maxRecDepth 20000 in
theorem gX6_toll_X6_mayTell : GoodIn wsX6_toll (wsV RX6 132 RX6 yX6_mayTell wsX6_mayTell) := goodIn_app (goodIn_of _ (by decide +kernel)) ggX6_toll_X6_mayTell
set_option maxRecDepth 20000 in
theorem ggX6_toll_X6_in : GoodIn wsX6_toll wsX6_in := goodIn_r _ [7] (by decide +kernel) (by decide +kernel)
set_option maxRecDepth 20000 in
theorem gX6_toll_X6_in : GoodIn wsX6_toll (va_wsS RX6 57 yX6_in wsX6_in) := goodIn_app (goodIn_of _ (by decide +kernel)) ggX6_toll_X6_in
set_option maxRecDepth 20000 in
theorem ggX6_toll_X6_rest : GoodIn wsX6_toll wsX6_rest := goodIn_r _ [32, 33, 34, 35, 36, 3, 37, 38, 39, 40, 41, 22, 42, 43, 44, 23, 24, 25, 26, 27, 28, 15, 16, 17, 45, 46, 47, 48, 49, 57, 58, 59, 60, 61, 62, 63, 64, 65, 66, 67, 68, 69, 70, 71, 72, 73, 74, 75] (by decide +kernel) (by decide +kernel)
set_option maxRecDepth 20000 in
theorem gX6_toll_X6_rest : GoodIn wsX6_toll (wsV RX6 135 RX6 yX6_rest wsX6_rest) := goodIn_app (goodIn_of _ (by decide +kernel)) ggX6_toll_X6_rest
set_option maxRecDepth 20000 in
theorem ggX6_toll_X6_changed : GoodIn wsX6_toll wsX6_changed := goodIn_r _ [37, 38, 39, 40, 3, 41, 22, 42, 43, 44, 23, 24, 25, 26, 27, 28, 15, 16, 17, 45, 46, 47, 48, 49, 57, 58, 59, 60, 61, 62, 63, 64, 65, 66, 67, 68, 69, 70, 71, 72, 73, 74, 75] (by decide +kernel) (by decide +kernel)
set_option maxRecDepth 20000 in
theorem gX6_toll_X6_changed : GoodIn wsX6_toll (wsV RX6 84 RX6 yX6_changed wsX6_changed) := goodIn_app (goodIn_of _ (by decide +kernel)) ggX6_toll_X6_changed
set_option maxRecDepth 20000 in
theorem ggX6_toll_X6_tests : GoodIn wsX6_toll wsX6_tests := goodIn_r _ [14, 15, 16, 3, 17] (by decide +kernel) (by decide +kernel)
set_option maxRecDepth 20000 in
theorem gX6_toll_X6_tests : GoodIn wsX6_toll (va_wsS RX6 126 yX6_tests wsX6_tests) := goodIn_app (goodIn_of _ (by decide +kernel)) ggX6_toll_X6_tests
set_option maxRecDepth 20000 in
theorem ggX6_toll_X6_tolled : GoodIn wsX6_toll wsX6_tolled := goodIn_r _ [52] (by decide +kernel) (by decide +kernel)
set_option maxRecDepth 20000 in
theorem gX6_toll_X6_tolled : GoodIn wsX6_toll (va_wsS RX6 139 yX6_tolled wsX6_tolled) := goodIn_app (goodIn_of _ (by decide +kernel)) ggX6_toll_X6_tolled
set_option maxRecDepth 20000 in
theorem ggX6_toll_X6_shareRow : GoodIn wsX6_toll wsX6_shareRow := goodIn_r _ [56, 22, 23, 24, 25, 3, 26, 27, 28, 15, 16, 17, 57, 58, 59, 60, 61, 62, 63, 64, 65, 66, 67, 68, 69, 70, 71, 72, 73, 74, 75] (by decide +kernel) (by decide +kernel)
set_option maxRecDepth 20000 in
theorem gX6_toll_X6_shareRow : GoodIn wsX6_toll (wsV RX6 155 RX6 yX6_shareRow wsX6_shareRow) := goodIn_app (goodIn_of _ (by decide +kernel)) ggX6_toll_X6_shareRow
theorem dX6_toll_0 : decode cX6_toll 0 = .ok (.iload_n 1, 1) := by decide +kernel
theorem dX6_toll_1 : decode cX6_toll 1 = .ok (.invokestatic 80, 3) := by decide +kernel
theorem dX6_toll_4 : decode cX6_toll 4 = .ok (.ifCond .eq 35, 3) := by decide +kernel
theorem dX6_toll_7 : decode cX6_toll 7 = .ok (.aload_n 0, 1) := by decide +kernel
theorem dX6_toll_8 : decode cX6_toll 8 = .ok (.iload_n 1, 1) := by decide +kernel
