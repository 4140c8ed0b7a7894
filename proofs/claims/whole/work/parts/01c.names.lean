theorem dX3_ofBest_4 : decode cX3_ofBest 4 = .ok (.ifCond .ne 6, 3) := by decide +kernel
theorem dX3_ofBest_7 : decode cX3_ofBest 7 = .ok (.ldc 108, 2) := by decide +kernel
theorem dX3_ofBest_9 : decode cX3_ofBest 9 = .ok (.ireturn, 1) := by decide +kernel
theorem dX3_ofBest_10 : decode cX3_ofBest 10 = .ok (.iload_n 1, 1) := by decide +kernel
theorem dX3_ofBest_11 : decode cX3_ofBest 11 = .ok (.tableswitch 49 0 3 #[29, 34, 39, 44], 29) := by decide +kernel
theorem dX3_ofBest_40 : decode cX3_ofBest 40 = .ok (.aload_n 0, 1) := by decide +kernel
theorem dX3_ofBest_41 : decode cX3_ofBest 41 = .ok (.getfield 96, 3) := by decide +kernel
theorem dX3_ofBest_44 : decode cX3_ofBest 44 = .ok (.ireturn, 1) := by decide +kernel
theorem dX3_ofBest_45 : decode cX3_ofBest 45 = .ok (.aload_n 0, 1) := by decide +kernel
theorem dX3_ofBest_46 : decode cX3_ofBest 46 = .ok (.getfield 99, 3) := by decide +kernel
theorem dX3_ofBest_49 : decode cX3_ofBest 49 = .ok (.ireturn, 1) := by decide +kernel
theorem dX3_ofBest_50 : decode cX3_ofBest 50 = .ok (.aload_n 0, 1) := by decide +kernel
theorem dX3_ofBest_51 : decode cX3_ofBest 51 = .ok (.getfield 102, 3) := by decide +kernel
theorem dX3_ofBest_54 : decode cX3_ofBest 54 = .ok (.ireturn, 1) := by decide +kernel
theorem dX3_ofBest_55 : decode cX3_ofBest 55 = .ok (.aload_n 0, 1) := by decide +kernel
theorem dX3_ofBest_56 : decode cX3_ofBest 56 = .ok (.getfield 105, 3) := by decide +kernel
theorem dX3_ofBest_59 : decode cX3_ofBest 59 = .ok (.ireturn, 1) := by decide +kernel
theorem dX3_ofBest_60 : decode cX3_ofBest 60 = .ok (.ldc 108, 2) := by decide +kernel
theorem dX3_ofBest_62 : decode cX3_ofBest 62 = .ok (.ireturn, 1) := by decide +kernel
theorem dX4_init_0 : decode cX4_init 0 = .ok (.aload_n 0, 1) := by decide +kernel
theorem dX4_init_1 : decode cX4_init 1 = .ok (.invokespecial 1, 3) := by decide +kernel
theorem dX4_init_4 : decode cX4_init 4 = .ok (.aload_n 0, 1) := by decide +kernel
theorem dX4_init_5 : decode cX4_init 5 = .ok (.iconst 5, 1) := by decide +kernel
theorem dX4_init_6 : decode cX4_init 6 = .ok (.newarray .int, 2) := by decide +kernel
theorem dX4_init_8 : decode cX4_init 8 = .ok (.putfield 9, 3) := by decide +kernel
theorem dX4_init_11 : decode cX4_init 11 = .ok (.aload_n 0, 1) := by decide +kernel
theorem dX4_init_12 : decode cX4_init 12 = .ok (.iconst 5, 1) := by decide +kernel
theorem dX4_init_13 : decode cX4_init 13 = .ok (.newarray .int, 2) := by decide +kernel
theorem dX4_init_15 : decode cX4_init 15 = .ok (.putfield 13, 3) := by decide +kernel
theorem dX4_init_18 : decode cX4_init 18 = .ok (.return_, 1) := by decide +kernel
set_option maxRecDepth 20000 in
theorem ggX4_has_X5_isIn : GoodIn wsX4_has wsX5_isIn := goodIn_r _ [3] (by decide +kernel) (by decide +kernel)
set_option maxRecDepth 20000 in
theorem gX4_has_X5_isIn_n16 : GoodIn wsX4_has (wsX5_isIn) := ggX4_has_X5_isIn
theorem dX4_has_0 : decode cX4_has 0 = .ok (.iload_n 0, 1) := by decide +kernel
theorem dX4_has_1 : decode cX4_has 1 = .ok (.iconst 0, 1) := by decide +kernel
theorem dX4_has_2 : decode cX4_has 2 = .ok (.iconst 4, 1) := by decide +kernel
theorem dX4_has_3 : decode cX4_has 3 = .ok (.invokestatic 16, 3) := by decide +kernel
theorem dX4_has_6 : decode cX4_has 6 = .ok (.ireturn, 1) := by decide +kernel
set_option maxRecDepth 20000 in
theorem ggX4_set_X4_has : GoodIn wsX4_set wsX4_has := goodIn_r _ [6, 7, 8, 9] (by decide +kernel) (by decide +kernel)
set_option maxRecDepth 20000 in
theorem gX4_set_X4_has : GoodIn wsX4_set (va_wsS RX4 22 yX4_has wsX4_has) := goodIn_app (goodIn_of _ (by decide +kernel)) ggX4_set_X4_has
theorem dX4_set_0 : decode cX4_set 0 = .ok (.iload_n 1, 1) := by decide +kernel
theorem dX4_set_1 : decode cX4_set 1 = .ok (.invokestatic 22, 3) := by decide +kernel
theorem dX4_set_4 : decode cX4_set 4 = .ok (.ifCond .eq 17, 3) := by decide +kernel
theorem dX4_set_7 : decode cX4_set 7 = .ok (.aload_n 0, 1) := by decide +kernel
theorem dX4_set_8 : decode cX4_set 8 = .ok (.getfield 9, 3) := by decide +kernel
theorem dX4_set_11 : decode cX4_set 11 = .ok (.iload_n 1, 1) := by decide +kernel
theorem dX4_set_12 : decode cX4_set 12 = .ok (.iload_n 2, 1) := by decide +kernel
theorem dX4_set_13 : decode cX4_set 13 = .ok (.iastore, 1) := by decide +kernel
theorem dX4_set_14 : decode cX4_set 14 = .ok (.aload_n 0, 1) := by decide +kernel
theorem dX4_set_15 : decode cX4_set 15 = .ok (.getfield 13, 3) := by decide +kernel
theorem dX4_set_18 : decode cX4_set 18 = .ok (.iload_n 1, 1) := by decide +kernel
theorem dX4_set_19 : decode cX4_set 19 = .ok (.iload_n 3, 1) := by decide +kernel
theorem dX4_set_20 : decode cX4_set 20 = .ok (.iastore, 1) := by decide +kernel
theorem dX4_set_21 : decode cX4_set 21 = .ok (.return_, 1) := by decide +kernel
set_option maxRecDepth 20000 in
theorem ggX4_result_X4_number : GoodIn wsX4_result wsX4_number := goodIn_r _ [5, 6, 7, 8, 9] (by decide +kernel) (by decide +kernel)
set_option maxRecDepth 20000 in
theorem gX4_result_X4_number : GoodIn wsX4_result (wsV RX4 26 RX4 yX4_number wsX4_number) := goodIn_app (goodIn_of _ (by decide +kernel)) ggX4_result_X4_number
theorem dX4_result_0 : decode cX4_result 0 = .ok (.aload_n 0, 1) := by decide +kernel
theorem dX4_result_1 : decode cX4_result 1 = .ok (.iconst 0, 1) := by decide +kernel
theorem dX4_result_2 : decode cX4_result 2 = .ok (.iload_n 1, 1) := by decide +kernel
theorem dX4_result_3 : decode cX4_result 3 = .ok (.invokevirtual 26, 3) := by decide +kernel
theorem dX4_result_6 : decode cX4_result 6 = .ok (.aload_n 0, 1) := by decide +kernel
theorem dX4_result_7 : decode cX4_result 7 = .ok (.iconst 1, 1) := by decide +kernel
theorem dX4_result_8 : decode cX4_result 8 = .ok (.iload_n 1, 1) := by decide +kernel
theorem dX4_result_9 : decode cX4_result 9 = .ok (.invokevirtual 26, 3) := by decide +kernel
theorem dX4_result_12 : decode cX4_result 12 = .ok (.imul, 1) := by decide +kernel
theorem dX4_result_13 : decode cX4_result 13 = .ok (.aload_n 0, 1) := by decide +kernel
theorem dX4_result_14 : decode cX4_result 14 = .ok (.iconst 2, 1) := by decide +kernel
theorem dX4_result_15 : decode cX4_result 15 = .ok (.iload_n 1, 1) := by decide +kernel
theorem dX4_result_16 : decode cX4_result 16 = .ok (.invokevirtual 26, 3) := by decide +kernel
theorem dX4_result_19 : decode cX4_result 19 = .ok (.aload_n 0, 1) := by decide +kernel
theorem dX4_result_20 : decode cX4_result 20 = .ok (.iconst 3, 1) := by decide +kernel
theorem dX4_result_21 : decode cX4_result 21 = .ok (.iload_n 1, 1) := by decide +kernel
theorem dX4_result_22 : decode cX4_result 22 = .ok (.invokevirtual 26, 3) := by decide +kernel
theorem dX4_result_25 : decode cX4_result 25 = .ok (.imul, 1) := by decide +kernel
theorem dX4_result_26 : decode cX4_result 26 = .ok (.iadd, 1) := by decide +kernel
theorem dX4_result_27 : decode cX4_result 27 = .ok (.aload_n 0, 1) := by decide +kernel
theorem dX4_result_28 : decode cX4_result 28 = .ok (.iconst 4, 1) := by decide +kernel
theorem dX4_result_29 : decode cX4_result 29 = .ok (.iload_n 1, 1) := by decide +kernel
theorem dX4_result_30 : decode cX4_result 30 = .ok (.invokevirtual 26, 3) := by decide +kernel
theorem dX4_result_33 : decode cX4_result 33 = .ok (.iadd, 1) := by decide +kernel
theorem dX4_result_34 : decode cX4_result 34 = .ok (.ireturn, 1) := by decide +kernel
theorem dX4_number_0 : decode cX4_number 0 = .ok (.iload_n 2, 1) := by decide +kernel
theorem dX4_number_1 : decode cX4_number 1 = .ok (.iload_n 1, 1) := by decide +kernel
theorem dX4_number_2 : decode cX4_number 2 = .ok (.ishr, 1) := by decide +kernel
theorem dX4_number_3 : decode cX4_number 3 = .ok (.iconst 1, 1) := by decide +kernel
theorem dX4_number_4 : decode cX4_number 4 = .ok (.iand, 1) := by decide +kernel
theorem dX4_number_5 : decode cX4_number 5 = .ok (.iconst 1, 1) := by decide +kernel
theorem dX4_number_6 : decode cX4_number 6 = .ok (.if_icmp .ne 12, 3) := by decide +kernel
theorem dX4_number_9 : decode cX4_number 9 = .ok (.aload_n 0, 1) := by decide +kernel
theorem dX4_number_10 : decode cX4_number 10 = .ok (.getfield 13, 3) := by decide +kernel
theorem dX4_number_13 : decode cX4_number 13 = .ok (.iload_n 1, 1) := by decide +kernel
theorem dX4_number_14 : decode cX4_number 14 = .ok (.iaload, 1) := by decide +kernel
theorem dX4_number_15 : decode cX4_number 15 = .ok (.goto 9, 3) := by decide +kernel
theorem dX4_number_18 : decode cX4_number 18 = .ok (.aload_n 0, 1) := by decide +kernel
theorem dX4_number_19 : decode cX4_number 19 = .ok (.getfield 9, 3) := by decide +kernel
theorem dX4_number_22 : decode cX4_number 22 = .ok (.iload_n 1, 1) := by decide +kernel
theorem dX4_number_23 : decode cX4_number 23 = .ok (.iaload, 1) := by decide +kernel
theorem dX4_number_24 : decode cX4_number 24 = .ok (.ireturn, 1) := by decide +kernel
set_option maxRecDepth 20000 in
theorem ggX4_overAllOrders_X4_has : GoodIn wsX4_overAllOrders wsX4_has := goodIn_r _ [5, 6, 7, 8] (by decide +kernel) (by decide +kernel)
set_option maxRecDepth 20000 in
theorem gX4_overAllOrders_X4_has : GoodIn wsX4_overAllOrders (va_wsS RX4 22 yX4_has wsX4_has) := goodIn_app (goodIn_of _ (by decide +kernel)) ggX4_overAllOrders_X4_has
set_option maxRecDepth 20000 in
theorem ggX4_overAllOrders_J6_bitCount_0f7a4 : GoodIn wsX4_overAllOrders wsJ6_bitCount_0f7a4 := goodIn_r _ [12, 13, 14, 15] (by decide +kernel) (by decide +kernel)
set_option maxRecDepth 20000 in
theorem gX4_overAllOrders_J6_bitCount_0f7a4 : GoodIn wsX4_overAllOrders (va_wsS RX4 33 yJ6_bitCount_0f7a4 wsJ6_bitCount_0f7a4) := goodIn_app (goodIn_of _ (by decide +kernel)) ggX4_overAllOrders_J6_bitCount_0f7a4
set_option maxRecDepth 20000 in
theorem ggX4_overAllOrders_X4_result : GoodIn wsX4_overAllOrders wsX4_result := goodIn_r _ [19, 20, 21, 22, 4, 23, 24, 25, 26, 27] (by decide +kernel) (by decide +kernel)
set_option maxRecDepth 20000 in
theorem gX4_overAllOrders_X4_result : GoodIn wsX4_overAllOrders (wsV RX4 39 RX4 yX4_result wsX4_result) := goodIn_app (goodIn_of _ (by decide +kernel)) ggX4_overAllOrders_X4_result
theorem dX4_overAllOrders_0 : decode cX4_overAllOrders 0 = .ok (.iload_n 1, 1) := by decide +kernel
theorem dX4_overAllOrders_1 : decode cX4_overAllOrders 1 = .ok (.invokestatic 22, 3) := by decide +kernel
theorem dX4_overAllOrders_4 : decode cX4_overAllOrders 4 = .ok (.ifCond .ne 5, 3) := by decide +kernel
theorem dX4_overAllOrders_7 : decode cX4_overAllOrders 7 = .ok (.iconst 0, 1) := by decide +kernel
theorem dX4_overAllOrders_8 : decode cX4_overAllOrders 8 = .ok (.ireturn, 1) := by decide +kernel
theorem dX4_overAllOrders_9 : decode cX4_overAllOrders 9 = .ok (.iconst 1, 1) := by decide +kernel
theorem dX4_overAllOrders_10 : decode cX4_overAllOrders 10 = .ok (.iload_n 1, 1) := by decide +kernel
theorem dX4_overAllOrders_11 : decode cX4_overAllOrders 11 = .ok (.ishl, 1) := by decide +kernel
theorem dX4_overAllOrders_12 : decode cX4_overAllOrders 12 = .ok (.istore_n 2, 1) := by decide +kernel
theorem dX4_overAllOrders_13 : decode cX4_overAllOrders 13 = .ok (.iconst 0, 1) := by decide +kernel
theorem dX4_overAllOrders_14 : decode cX4_overAllOrders 14 = .ok (.istore_n 3, 1) := by decide +kernel
theorem dX4_overAllOrders_15 : decode cX4_overAllOrders 15 = .ok (.iconst 0, 1) := by decide +kernel
theorem dX4_overAllOrders_16 : decode cX4_overAllOrders 16 = .ok (.istore 4, 2) := by decide +kernel
theorem dX4_overAllOrders_18 : decode cX4_overAllOrders 18 = .ok (.iload 4, 2) := by decide +kernel
theorem dX4_overAllOrders_20 : decode cX4_overAllOrders 20 = .ok (.bipush 31, 2) := by decide +kernel
theorem dX4_overAllOrders_22 : decode cX4_overAllOrders 22 = .ok (.if_icmp .gt 44, 3) := by decide +kernel
theorem dX4_overAllOrders_25 : decode cX4_overAllOrders 25 = .ok (.iload 4, 2) := by decide +kernel
theorem dX4_overAllOrders_27 : decode cX4_overAllOrders 27 = .ok (.iload_n 2, 1) := by decide +kernel
theorem dX4_overAllOrders_28 : decode cX4_overAllOrders 28 = .ok (.iand, 1) := by decide +kernel
theorem dX4_overAllOrders_29 : decode cX4_overAllOrders 29 = .ok (.ifCond .ne 31, 3) := by decide +kernel
theorem dX4_overAllOrders_32 : decode cX4_overAllOrders 32 = .ok (.iload_n 3, 1) := by decide +kernel
theorem dX4_overAllOrders_33 : decode cX4_overAllOrders 33 = .ok (.getstatic 30, 3) := by decide +kernel
theorem dX4_overAllOrders_36 : decode cX4_overAllOrders 36 = .ok (.iload 4, 2) := by decide +kernel
theorem dX4_overAllOrders_38 : decode cX4_overAllOrders 38 = .ok (.invokestatic 33, 3) := by decide +kernel
theorem dX4_overAllOrders_41 : decode cX4_overAllOrders 41 = .ok (.iaload, 1) := by decide +kernel
theorem dX4_overAllOrders_42 : decode cX4_overAllOrders 42 = .ok (.aload_n 0, 1) := by decide +kernel
theorem dX4_overAllOrders_43 : decode cX4_overAllOrders 43 = .ok (.iload 4, 2) := by decide +kernel
theorem dX4_overAllOrders_45 : decode cX4_overAllOrders 45 = .ok (.iload_n 2, 1) := by decide +kernel
theorem dX4_overAllOrders_46 : decode cX4_overAllOrders 46 = .ok (.ior, 1) := by decide +kernel
theorem dX4_overAllOrders_47 : decode cX4_overAllOrders 47 = .ok (.invokevirtual 39, 3) := by decide +kernel
theorem dX4_overAllOrders_50 : decode cX4_overAllOrders 50 = .ok (.aload_n 0, 1) := by decide +kernel
theorem dX4_overAllOrders_51 : decode cX4_overAllOrders 51 = .ok (.iload 4, 2) := by decide +kernel
theorem dX4_overAllOrders_53 : decode cX4_overAllOrders 53 = .ok (.invokevirtual 39, 3) := by decide +kernel
theorem dX4_overAllOrders_56 : decode cX4_overAllOrders 56 = .ok (.isub, 1) := by decide +kernel
theorem dX4_overAllOrders_57 : decode cX4_overAllOrders 57 = .ok (.imul, 1) := by decide +kernel
theorem dX4_overAllOrders_58 : decode cX4_overAllOrders 58 = .ok (.iadd, 1) := by decide +kernel
theorem dX4_overAllOrders_59 : decode cX4_overAllOrders 59 = .ok (.istore_n 3, 1) := by decide +kernel
theorem dX4_overAllOrders_60 : decode cX4_overAllOrders 60 = .ok (.iinc 4 1, 3) := by decide +kernel
theorem dX4_overAllOrders_63 : decode cX4_overAllOrders 63 = .ok (.goto (-45), 3) := by decide +kernel
theorem dX4_overAllOrders_66 : decode cX4_overAllOrders 66 = .ok (.iload_n 3, 1) := by decide +kernel
theorem dX4_overAllOrders_67 : decode cX4_overAllOrders 67 = .ok (.ireturn, 1) := by decide +kernel
set_option maxRecDepth 20000 in
theorem ggX5_init_X2_init : GoodIn wsX5_init wsX2_init := goodIn_r _ [18, 19, 2, 3, 20, 21, 22, 23, 24, 25, 26, 27, 28, 49, 50, 51, 52, 53, 54, 55, 56] (by decide +kernel) (by decide +kernel)
set_option maxRecDepth 20000 in
theorem gX5_init_X2_init : GoodIn wsX5_init (wsX2_init) := ggX5_init_X2_init
set_option maxRecDepth 20000 in
theorem ggX5_init_X4_init : GoodIn wsX5_init wsX4_init := goodIn_r _ [31, 32, 2, 3, 20, 33, 34, 60, 61] (by decide +kernel) (by decide +kernel)
set_option maxRecDepth 20000 in
theorem gX5_init_X4_init : GoodIn wsX5_init (wsX4_init) := ggX5_init_X4_init
set_option maxRecDepth 20000 in
theorem ggX5_init_X3_init : GoodIn wsX5_init wsX3_init := goodIn_r _ [37, 38, 2, 3, 39, 20, 40, 41, 42, 43, 44, 45, 46, 47, 48, 62, 63, 64, 65, 66, 67, 68, 69, 70, 71, 72, 73, 74, 75] (by decide +kernel) (by decide +kernel)
set_option maxRecDepth 20000 in
theorem gX5_init_X3_init : GoodIn wsX5_init (wsX3_init) := ggX5_init_X3_init
theorem dX5_init_0 : decode cX5_init 0 = .ok (.aload_n 0, 1) := by decide +kernel
theorem dX5_init_1 : decode cX5_init 1 = .ok (.invokespecial 1, 3) := by decide +kernel
theorem dX5_init_4 : decode cX5_init 4 = .ok (.aload_n 0, 1) := by decide +kernel
theorem dX5_init_5 : decode cX5_init 5 = .ok (.new 7, 3) := by decide +kernel
theorem dX5_init_8 : decode cX5_init 8 = .ok (.dup, 1) := by decide +kernel
theorem dX5_init_9 : decode cX5_init 9 = .ok (.invokespecial 9, 3) := by decide +kernel
theorem dX5_init_12 : decode cX5_init 12 = .ok (.putfield 10, 3) := by decide +kernel
theorem dX5_init_15 : decode cX5_init 15 = .ok (.aload_n 0, 1) := by decide +kernel
theorem dX5_init_16 : decode cX5_init 16 = .ok (.new 16, 3) := by decide +kernel
theorem dX5_init_19 : decode cX5_init 19 = .ok (.dup, 1) := by decide +kernel
theorem dX5_init_20 : decode cX5_init 20 = .ok (.invokespecial 18, 3) := by decide +kernel
theorem dX5_init_23 : decode cX5_init 23 = .ok (.putfield 19, 3) := by decide +kernel
theorem dX5_init_26 : decode cX5_init 26 = .ok (.aload_n 0, 1) := by decide +kernel
theorem dX5_init_27 : decode cX5_init 27 = .ok (.new 23, 3) := by decide +kernel
theorem dX5_init_30 : decode cX5_init 30 = .ok (.dup, 1) := by decide +kernel
theorem dX5_init_31 : decode cX5_init 31 = .ok (.aload_n 0, 1) := by decide +kernel
theorem dX5_init_32 : decode cX5_init 32 = .ok (.getfield 10, 3) := by decide +kernel
theorem dX5_init_35 : decode cX5_init 35 = .ok (.invokespecial 25, 3) := by decide +kernel
theorem dX5_init_38 : decode cX5_init 38 = .ok (.putfield 28, 3) := by decide +kernel
theorem dX5_init_41 : decode cX5_init 41 = .ok (.return_, 1) := by decide +kernel
set_option maxRecDepth 20000 in
theorem ggX5_row_X5_isIn : GoodIn wsX5_row wsX5_isIn := goodIn_r _ [5] (by decide +kernel) (by decide +kernel)
set_option maxRecDepth 20000 in
theorem gX5_row_X5_isIn : GoodIn wsX5_row (va_wsS RX5 32 yX5_isIn wsX5_isIn) := goodIn_app (goodIn_of _ (by decide +kernel)) ggX5_row_X5_isIn
set_option maxRecDepth 20000 in
theorem ggX5_row_X5_isTop : GoodIn wsX5_row wsX5_isTop := goodIn_r _ [8, 2, 3, 4, 5] (by decide +kernel) (by decide +kernel)
set_option maxRecDepth 20000 in
theorem gX5_row_X5_isTop : GoodIn wsX5_row (va_wsS RX5 36 yX5_isTop wsX5_isTop) := goodIn_app (goodIn_of _ (by decide +kernel)) ggX5_row_X5_isTop
set_option maxRecDepth 20000 in
theorem ggX5_row_X5_isBase : GoodIn wsX5_row wsX5_isBase := goodIn_r _ [11, 2, 3, 4, 5] (by decide +kernel) (by decide +kernel)
set_option maxRecDepth 20000 in
theorem gX5_row_X5_isBase : GoodIn wsX5_row (va_wsS RX5 40 yX5_isBase wsX5_isBase) := goodIn_app (goodIn_of _ (by decide +kernel)) ggX5_row_X5_isBase
set_option maxRecDepth 20000 in
theorem ggX5_row_X5_isMember : GoodIn wsX5_row wsX5_isMember := goodIn_r _ [14, 2, 3, 4, 5] (by decide +kernel) (by decide +kernel)
set_option maxRecDepth 20000 in
theorem gX5_row_X5_isMember : GoodIn wsX5_row (va_wsS RX5 43 yX5_isMember wsX5_isMember) := goodIn_app (goodIn_of _ (by decide +kernel)) ggX5_row_X5_isMember
set_option maxRecDepth 20000 in
theorem ggX5_row_X2_isFull : GoodIn wsX5_row wsX2_isFull := goodIn_r _ [19, 20, 35, 36, 37, 38, 39, 40, 41, 42] (by decide +kernel) (by decide +kernel)
set_option maxRecDepth 20000 in
theorem gX5_row_X2_isFull : GoodIn wsX5_row (wsV RX5 46 RX2 yX2_isFull wsX2_isFull) := goodIn_app (goodIn_of _ (by decide +kernel)) ggX5_row_X2_isFull
set_option maxRecDepth 20000 in
theorem ggX5_row_X2_add : GoodIn wsX5_row wsX2_add := goodIn_r _ [24, 25, 20, 26, 27, 28, 29, 30, 31, 16, 17, 18, 19, 35, 36, 37, 38, 39, 40, 41, 42] (by decide +kernel) (by decide +kernel)
set_option maxRecDepth 20000 in
theorem gX5_row_X2_add : GoodIn wsX5_row (wsV RX5 50 RX2 yX2_add wsX2_add) := goodIn_app (goodIn_of _ (by decide +kernel)) ggX5_row_X2_add
theorem dX5_row_0 : decode cX5_row 0 = .ok (.iload_n 1, 1) := by decide +kernel
theorem dX5_row_1 : decode cX5_row 1 = .ok (.ifCond .lt 32, 3) := by decide +kernel
theorem dX5_row_4 : decode cX5_row 4 = .ok (.iload_n 1, 1) := by decide +kernel
theorem dX5_row_5 : decode cX5_row 5 = .ok (.bipush 100, 2) := by decide +kernel
theorem dX5_row_7 : decode cX5_row 7 = .ok (.idiv, 1) := by decide +kernel
theorem dX5_row_8 : decode cX5_row 8 = .ok (.iconst 0, 1) := by decide +kernel
theorem dX5_row_9 : decode cX5_row 9 = .ok (.iconst 1, 1) := by decide +kernel
theorem dX5_row_10 : decode cX5_row 10 = .ok (.invokestatic 32, 3) := by decide +kernel
theorem dX5_row_13 : decode cX5_row 13 = .ok (.ifCond .eq 20, 3) := by decide +kernel
theorem dX5_row_16 : decode cX5_row 16 = .ok (.iload_n 1, 1) := by decide +kernel
theorem dX5_row_17 : decode cX5_row 17 = .ok (.bipush 100, 2) := by decide +kernel
theorem dX5_row_19 : decode cX5_row 19 = .ok (.irem, 1) := by decide +kernel
theorem dX5_row_20 : decode cX5_row 20 = .ok (.iconst 0, 1) := by decide +kernel
theorem dX5_row_21 : decode cX5_row 21 = .ok (.bipush 30, 2) := by decide +kernel
theorem dX5_row_23 : decode cX5_row 23 = .ok (.invokestatic 32, 3) := by decide +kernel
theorem dX5_row_26 : decode cX5_row 26 = .ok (.ifCond .eq 7, 3) := by decide +kernel
theorem dX5_row_29 : decode cX5_row 29 = .ok (.iconst 1, 1) := by decide +kernel
theorem dX5_row_30 : decode cX5_row 30 = .ok (.goto 4, 3) := by decide +kernel
theorem dX5_row_33 : decode cX5_row 33 = .ok (.iconst 0, 1) := by decide +kernel
theorem dX5_row_34 : decode cX5_row 34 = .ok (.istore 6, 2) := by decide +kernel
theorem dX5_row_36 : decode cX5_row 36 = .ok (.iload 6, 2) := by decide +kernel
theorem dX5_row_38 : decode cX5_row 38 = .ok (.ifCond .eq 37, 3) := by decide +kernel
theorem dX5_row_41 : decode cX5_row 41 = .ok (.iload_n 2, 1) := by decide +kernel
theorem dX5_row_42 : decode cX5_row 42 = .ok (.invokestatic 36, 3) := by decide +kernel
theorem dX5_row_45 : decode cX5_row 45 = .ok (.ifCond .eq 30, 3) := by decide +kernel
theorem dX5_row_48 : decode cX5_row 48 = .ok (.iload_n 3, 1) := by decide +kernel
theorem dX5_row_49 : decode cX5_row 49 = .ok (.invokestatic 40, 3) := by decide +kernel
theorem dX5_row_52 : decode cX5_row 52 = .ok (.ifCond .eq 23, 3) := by decide +kernel
theorem dX5_row_55 : decode cX5_row 55 = .ok (.iload 4, 2) := by decide +kernel
theorem dX5_row_57 : decode cX5_row 57 = .ok (.invokestatic 43, 3) := by decide +kernel
theorem dX5_row_60 : decode cX5_row 60 = .ok (.ifCond .eq 15, 3) := by decide +kernel
theorem dX5_row_63 : decode cX5_row 63 = .ok (.iload 5, 2) := by decide +kernel
theorem dX5_row_65 : decode cX5_row 65 = .ok (.iconst 0, 1) := by decide +kernel
theorem dX5_row_66 : decode cX5_row 66 = .ok (.sipush 511, 3) := by decide +kernel
theorem dX5_row_69 : decode cX5_row 69 = .ok (.invokestatic 32, 3) := by decide +kernel
theorem dX5_row_72 : decode cX5_row 72 = .ok (.ifCond .ne 5, 3) := by decide +kernel
theorem dX5_row_75 : decode cX5_row 75 = .ok (.iconst (-1), 1) := by decide +kernel
theorem dX5_row_76 : decode cX5_row 76 = .ok (.ireturn, 1) := by decide +kernel
theorem dX5_row_77 : decode cX5_row 77 = .ok (.aload_n 0, 1) := by decide +kernel
theorem dX5_row_78 : decode cX5_row 78 = .ok (.getfield 10, 3) := by decide +kernel
theorem dX5_row_81 : decode cX5_row 81 = .ok (.invokevirtual 46, 3) := by decide +kernel
theorem dX5_row_84 : decode cX5_row 84 = .ok (.ifCond .eq 6, 3) := by decide +kernel
theorem dX5_row_87 : decode cX5_row 87 = .ok (.bipush (-2), 2) := by decide +kernel
theorem dX5_row_89 : decode cX5_row 89 = .ok (.ireturn, 1) := by decide +kernel
theorem dX5_row_90 : decode cX5_row 90 = .ok (.aload_n 0, 1) := by decide +kernel
theorem dX5_row_91 : decode cX5_row 91 = .ok (.getfield 10, 3) := by decide +kernel
theorem dX5_row_94 : decode cX5_row 94 = .ok (.iload_n 1, 1) := by decide +kernel
theorem dX5_row_95 : decode cX5_row 95 = .ok (.iload_n 2, 1) := by decide +kernel
theorem dX5_row_96 : decode cX5_row 96 = .ok (.iload_n 3, 1) := by decide +kernel
theorem dX5_row_97 : decode cX5_row 97 = .ok (.iload 4, 2) := by decide +kernel
theorem dX5_row_99 : decode cX5_row 99 = .ok (.iload 5, 2) := by decide +kernel
theorem dX5_row_101 : decode cX5_row 101 = .ok (.invokevirtual 50, 3) := by decide +kernel
theorem dX5_row_104 : decode cX5_row 104 = .ok (.ireturn, 1) := by decide +kernel
set_option maxRecDepth 20000 in
theorem ggX5_right_X2_has : GoodIn wsX5_right wsX2_has := goodIn_r _ [6, 7, 28, 29, 30, 31, 32, 33, 34, 35] (by decide +kernel) (by decide +kernel)
set_option maxRecDepth 20000 in
theorem gX5_right_X2_has : GoodIn wsX5_right (wsV RX5 54 RX2 yX2_has wsX2_has) := goodIn_app (goodIn_of _ (by decide +kernel)) ggX5_right_X2_has
set_option maxRecDepth 20000 in
theorem ggX5_right_X5_isTop : GoodIn wsX5_right wsX5_isTop := goodIn_r _ [11, 12, 13, 10, 14] (by decide +kernel) (by decide +kernel)
set_option maxRecDepth 20000 in
theorem gX5_right_X5_isTop : GoodIn wsX5_right (va_wsS RX5 36 yX5_isTop wsX5_isTop) := goodIn_app (goodIn_of _ (by decide +kernel)) ggX5_right_X5_isTop
set_option maxRecDepth 20000 in
theorem ggX5_right_X5_isBase : GoodIn wsX5_right wsX5_isBase := goodIn_r _ [17, 12, 13, 10, 14] (by decide +kernel) (by decide +kernel)
set_option maxRecDepth 20000 in
theorem gX5_right_X5_isBase : GoodIn wsX5_right (va_wsS RX5 40 yX5_isBase wsX5_isBase) := goodIn_app (goodIn_of _ (by decide +kernel)) ggX5_right_X5_isBase
set_option maxRecDepth 20000 in
theorem ggX5_right_X2_putRight : GoodIn wsX5_right wsX2_putRight := goodIn_r _ [21, 22, 23, 24, 3, 4, 5, 6, 7, 28, 29, 30, 31, 32, 33, 34, 35] (by decide +kernel) (by decide +kernel)
set_option maxRecDepth 20000 in
theorem gX5_right_X2_putRight : GoodIn wsX5_right (wsV RX5 57 RX2 yX2_putRight wsX2_putRight) := goodIn_app (goodIn_of _ (by decide +kernel)) ggX5_right_X2_putRight
theorem dX5_right_0 : decode cX5_right 0 = .ok (.aload_n 0, 1) := by decide +kernel
theorem dX5_right_1 : decode cX5_right 1 = .ok (.getfield 10, 3) := by decide +kernel
theorem dX5_right_4 : decode cX5_right 4 = .ok (.iload_n 1, 1) := by decide +kernel
theorem dX5_right_5 : decode cX5_right 5 = .ok (.invokevirtual 54, 3) := by decide +kernel
theorem dX5_right_8 : decode cX5_right 8 = .ok (.ifCond .eq 17, 3) := by decide +kernel
theorem dX5_right_11 : decode cX5_right 11 = .ok (.iload_n 2, 1) := by decide +kernel
theorem dX5_right_12 : decode cX5_right 12 = .ok (.invokestatic 36, 3) := by decide +kernel
theorem dX5_right_15 : decode cX5_right 15 = .ok (.ifCond .eq 10, 3) := by decide +kernel
theorem dX5_right_18 : decode cX5_right 18 = .ok (.iload_n 3, 1) := by decide +kernel
theorem dX5_right_19 : decode cX5_right 19 = .ok (.invokestatic 40, 3) := by decide +kernel
theorem dX5_right_22 : decode cX5_right 22 = .ok (.ifCond .ne 5, 3) := by decide +kernel
theorem dX5_right_25 : decode cX5_right 25 = .ok (.iconst (-1), 1) := by decide +kernel
theorem dX5_right_26 : decode cX5_right 26 = .ok (.ireturn, 1) := by decide +kernel
theorem dX5_right_27 : decode cX5_right 27 = .ok (.aload_n 0, 1) := by decide +kernel
theorem dX5_right_28 : decode cX5_right 28 = .ok (.getfield 10, 3) := by decide +kernel
theorem dX5_right_31 : decode cX5_right 31 = .ok (.iload_n 1, 1) := by decide +kernel
theorem dX5_right_32 : decode cX5_right 32 = .ok (.iload_n 2, 1) := by decide +kernel
theorem dX5_right_33 : decode cX5_right 33 = .ok (.iload_n 3, 1) := by decide +kernel
theorem dX5_right_34 : decode cX5_right 34 = .ok (.invokevirtual 57, 3) := by decide +kernel
theorem dX5_right_37 : decode cX5_right 37 = .ok (.iconst 1, 1) := by decide +kernel
theorem dX5_right_38 : decode cX5_right 38 = .ok (.ireturn, 1) := by decide +kernel
set_option maxRecDepth 20000 in
theorem ggX5_strike_X2_has : GoodIn wsX5_strike wsX2_has := goodIn_r _ [6, 7, 21, 22, 23, 24, 25, 26, 27, 28] (by decide +kernel) (by decide +kernel)
set_option maxRecDepth 20000 in
theorem gX5_strike_X2_has : GoodIn wsX5_strike (wsV RX5 54 RX2 yX2_has wsX2_has) := goodIn_app (goodIn_of _ (by decide +kernel)) ggX5_strike_X2_has
set_option maxRecDepth 20000 in
theorem ggX5_strike_X5_isIn : GoodIn wsX5_strike wsX5_isIn := goodIn_r _ [11] (by decide +kernel) (by decide +kernel)
set_option maxRecDepth 20000 in
theorem gX5_strike_X5_isIn : GoodIn wsX5_strike (va_wsS RX5 32 yX5_isIn wsX5_isIn) := goodIn_app (goodIn_of _ (by decide +kernel)) ggX5_strike_X5_isIn
set_option maxRecDepth 20000 in
theorem ggX5_strike_X2_setStruck : GoodIn wsX5_strike wsX2_setStruck := goodIn_r _ [15, 16, 17, 3, 4, 5, 6, 7, 21, 22, 23, 24, 25, 26, 27, 28] (by decide +kernel) (by decide +kernel)
set_option maxRecDepth 20000 in
theorem gX5_strike_X2_setStruck : GoodIn wsX5_strike (wsV RX5 61 RX2 yX2_setStruck wsX2_setStruck) := goodIn_app (goodIn_of _ (by decide +kernel)) ggX5_strike_X2_setStruck
theorem dX5_strike_0 : decode cX5_strike 0 = .ok (.aload_n 0, 1) := by decide +kernel
theorem dX5_strike_1 : decode cX5_strike 1 = .ok (.getfield 10, 3) := by decide +kernel
theorem dX5_strike_4 : decode cX5_strike 4 = .ok (.iload_n 1, 1) := by decide +kernel
theorem dX5_strike_5 : decode cX5_strike 5 = .ok (.invokevirtual 54, 3) := by decide +kernel
theorem dX5_strike_8 : decode cX5_strike 8 = .ok (.ifCond .eq 12, 3) := by decide +kernel
theorem dX5_strike_11 : decode cX5_strike 11 = .ok (.iload_n 2, 1) := by decide +kernel
theorem dX5_strike_12 : decode cX5_strike 12 = .ok (.iconst 0, 1) := by decide +kernel
theorem dX5_strike_13 : decode cX5_strike 13 = .ok (.iconst 1, 1) := by decide +kernel
theorem dX5_strike_14 : decode cX5_strike 14 = .ok (.invokestatic 32, 3) := by decide +kernel
theorem dX5_strike_17 : decode cX5_strike 17 = .ok (.ifCond .ne 5, 3) := by decide +kernel
theorem dX5_strike_20 : decode cX5_strike 20 = .ok (.iconst (-1), 1) := by decide +kernel
theorem dX5_strike_21 : decode cX5_strike 21 = .ok (.ireturn, 1) := by decide +kernel
theorem dX5_strike_22 : decode cX5_strike 22 = .ok (.aload_n 0, 1) := by decide +kernel
theorem dX5_strike_23 : decode cX5_strike 23 = .ok (.getfield 10, 3) := by decide +kernel
theorem dX5_strike_26 : decode cX5_strike 26 = .ok (.iload_n 1, 1) := by decide +kernel
theorem dX5_strike_27 : decode cX5_strike 27 = .ok (.iload_n 2, 1) := by decide +kernel
theorem dX5_strike_28 : decode cX5_strike 28 = .ok (.invokevirtual 61, 3) := by decide +kernel
theorem dX5_strike_31 : decode cX5_strike 31 = .ok (.ireturn, 1) := by decide +kernel
set_option maxRecDepth 20000 in
theorem ggX5_about_X2_has : GoodIn wsX5_about wsX2_has := goodIn_r _ [6, 7, 27, 28, 29, 30, 31, 32, 33, 34] (by decide +kernel) (by decide +kernel)
set_option maxRecDepth 20000 in
theorem gX5_about_X2_has : GoodIn wsX5_about (wsV RX5 54 RX2 yX2_has wsX2_has) := goodIn_app (goodIn_of _ (by decide +kernel)) ggX5_about_X2_has
set_option maxRecDepth 20000 in
theorem ggX5_about_X2_field : GoodIn wsX5_about wsX2_field := goodIn_r _ [11, 12, 13, 14, 15, 16, 17, 18, 3, 4, 5, 6, 7, 19, 20, 21, 22, 23, 27, 28, 29, 30, 31, 32, 33, 34] (by decide +kernel) (by decide +kernel)
set_option maxRecDepth 20000 in
theorem gX5_about_X2_field : GoodIn wsX5_about (wsV RX5 65 RX2 yX2_field wsX2_field) := goodIn_app (goodIn_of _ (by decide +kernel)) ggX5_about_X2_field
theorem dX5_about_0 : decode cX5_about 0 = .ok (.aload_n 0, 1) := by decide +kernel
theorem dX5_about_1 : decode cX5_about 1 = .ok (.getfield 10, 3) := by decide +kernel
theorem dX5_about_4 : decode cX5_about 4 = .ok (.iload_n 1, 1) := by decide +kernel
theorem dX5_about_5 : decode cX5_about 5 = .ok (.invokevirtual 54, 3) := by decide +kernel
theorem dX5_about_8 : decode cX5_about 8 = .ok (.ifCond .eq 15, 3) := by decide +kernel
theorem dX5_about_11 : decode cX5_about 11 = .ok (.aload_n 0, 1) := by decide +kernel
theorem dX5_about_12 : decode cX5_about 12 = .ok (.getfield 10, 3) := by decide +kernel
theorem dX5_about_15 : decode cX5_about 15 = .ok (.iload_n 1, 1) := by decide +kernel
theorem dX5_about_16 : decode cX5_about 16 = .ok (.iload_n 2, 1) := by decide +kernel
theorem dX5_about_17 : decode cX5_about 17 = .ok (.invokevirtual 65, 3) := by decide +kernel
theorem dX5_about_20 : decode cX5_about 20 = .ok (.goto 6, 3) := by decide +kernel
theorem dX5_about_23 : decode cX5_about 23 = .ok (.sipush (-1000), 3) := by decide +kernel
theorem dX5_about_26 : decode cX5_about 26 = .ok (.ireturn, 1) := by decide +kernel
set_option maxRecDepth 20000 in
theorem ggX5_sum_X1_has : GoodIn wsX5_sum wsX1_has := goodIn_r _ [6, 7, 8, 9] (by decide +kernel) (by decide +kernel)
set_option maxRecDepth 20000 in
theorem gX5_sum_X1_has : GoodIn wsX5_sum (va_wsS RX5 68 yX1_has wsX1_has) := goodIn_app (goodIn_of _ (by decide +kernel)) ggX5_sum_X1_has
set_option maxRecDepth 20000 in
theorem ggX5_sum_X5_isIn : GoodIn wsX5_sum wsX5_isIn := goodIn_r _ [9] (by decide +kernel) (by decide +kernel)
set_option maxRecDepth 20000 in
theorem gX5_sum_X5_isIn : GoodIn wsX5_sum (va_wsS RX5 32 yX5_isIn wsX5_isIn) := goodIn_app (goodIn_of _ (by decide +kernel)) ggX5_sum_X5_isIn
set_option maxRecDepth 20000 in
theorem ggX5_sum_X2_total : GoodIn wsX5_sum wsX2_total := goodIn_r _ [15, 16, 17, 18, 19, 20, 21, 22, 5, 23, 24, 25, 26, 27, 28, 29, 30, 31, 32, 14, 33, 34, 35, 36, 37, 38, 39, 40, 41, 42, 46, 47, 48, 49, 50, 51, 52, 53] (by decide +kernel) (by decide +kernel)
set_option maxRecDepth 20000 in
theorem gX5_sum_X2_total : GoodIn wsX5_sum (wsV RX5 71 RX2 yX2_total wsX2_total) := goodIn_app (goodIn_of _ (by decide +kernel)) ggX5_sum_X2_total
theorem dX5_sum_0 : decode cX5_sum 0 = .ok (.iload_n 1, 1) := by decide +kernel
theorem dX5_sum_1 : decode cX5_sum 1 = .ok (.invokestatic 68, 3) := by decide +kernel
theorem dX5_sum_4 : decode cX5_sum 4 = .ok (.ifCond .eq 25, 3) := by decide +kernel
theorem dX5_sum_7 : decode cX5_sum 7 = .ok (.iload_n 2, 1) := by decide +kernel
theorem dX5_sum_8 : decode cX5_sum 8 = .ok (.iconst 0, 1) := by decide +kernel
theorem dX5_sum_9 : decode cX5_sum 9 = .ok (.iconst 1, 1) := by decide +kernel
theorem dX5_sum_10 : decode cX5_sum 10 = .ok (.invokestatic 32, 3) := by decide +kernel
theorem dX5_sum_13 : decode cX5_sum 13 = .ok (.ifCond .eq 16, 3) := by decide +kernel
theorem dX5_sum_16 : decode cX5_sum 16 = .ok (.iload_n 3, 1) := by decide +kernel
theorem dX5_sum_17 : decode cX5_sum 17 = .ok (.iconst 0, 1) := by decide +kernel
theorem dX5_sum_18 : decode cX5_sum 18 = .ok (.iconst 3, 1) := by decide +kernel
theorem dX5_sum_19 : decode cX5_sum 19 = .ok (.invokestatic 32, 3) := by decide +kernel
theorem dX5_sum_22 : decode cX5_sum 22 = .ok (.ifCond .eq 7, 3) := by decide +kernel
theorem dX5_sum_25 : decode cX5_sum 25 = .ok (.iconst 1, 1) := by decide +kernel
theorem dX5_sum_26 : decode cX5_sum 26 = .ok (.goto 4, 3) := by decide +kernel
theorem dX5_sum_29 : decode cX5_sum 29 = .ok (.iconst 0, 1) := by decide +kernel
theorem dX5_sum_30 : decode cX5_sum 30 = .ok (.istore 4, 2) := by decide +kernel
theorem dX5_sum_32 : decode cX5_sum 32 = .ok (.iload 4, 2) := by decide +kernel
theorem dX5_sum_34 : decode cX5_sum 34 = .ok (.ifCond .eq 16, 3) := by decide +kernel
theorem dX5_sum_37 : decode cX5_sum 37 = .ok (.aload_n 0, 1) := by decide +kernel
theorem dX5_sum_38 : decode cX5_sum 38 = .ok (.getfield 10, 3) := by decide +kernel
theorem dX5_sum_41 : decode cX5_sum 41 = .ok (.iload_n 1, 1) := by decide +kernel
theorem dX5_sum_42 : decode cX5_sum 42 = .ok (.iload_n 2, 1) := by decide +kernel
theorem dX5_sum_43 : decode cX5_sum 43 = .ok (.iload_n 3, 1) := by decide +kernel
theorem dX5_sum_44 : decode cX5_sum 44 = .ok (.invokevirtual 71, 3) := by decide +kernel
theorem dX5_sum_47 : decode cX5_sum 47 = .ok (.goto 5, 3) := by decide +kernel
theorem dX5_sum_50 : decode cX5_sum 50 = .ok (.ldc 75, 2) := by decide +kernel
theorem dX5_sum_52 : decode cX5_sum 52 = .ok (.ireturn, 1) := by decide +kernel
set_option maxRecDepth 20000 in
theorem ggX5_change_X1_has : GoodIn wsX5_change wsX1_has := goodIn_r _ [6, 7, 8, 9] (by decide +kernel) (by decide +kernel)
set_option maxRecDepth 20000 in
theorem gX5_change_X1_has : GoodIn wsX5_change (va_wsS RX5 68 yX1_has wsX1_has) := goodIn_app (goodIn_of _ (by decide +kernel)) ggX5_change_X1_has
set_option maxRecDepth 20000 in
theorem ggX5_change_X5_isIn : GoodIn wsX5_change wsX5_isIn := goodIn_r _ [9] (by decide +kernel) (by decide +kernel)
set_option maxRecDepth 20000 in
theorem gX5_change_X5_isIn : GoodIn wsX5_change (va_wsS RX5 32 yX5_isIn wsX5_isIn) := goodIn_app (goodIn_of _ (by decide +kernel)) ggX5_change_X5_isIn
set_option maxRecDepth 20000 in
theorem ggX5_change_X2_moved : GoodIn wsX5_change wsX2_moved := goodIn_r _ [15, 16, 17, 18, 14, 19, 20, 21, 22, 23, 24, 25, 26, 5, 27, 28, 29, 30, 31, 32, 33, 34, 35, 36, 37, 38, 39, 40, 41, 42, 43, 44, 45, 46, 50, 51, 52, 53, 54, 55, 56, 57] (by decide +kernel) (by decide +kernel)
set_option maxRecDepth 20000 in
theorem gX5_change_X2_moved : GoodIn wsX5_change (wsV RX5 76 RX2 yX2_moved wsX2_moved) := goodIn_app (goodIn_of _ (by decide +kernel)) ggX5_change_X2_moved
theorem dX5_change_0 : decode cX5_change 0 = .ok (.iload_n 1, 1) := by decide +kernel
theorem dX5_change_1 : decode cX5_change 1 = .ok (.invokestatic 68, 3) := by decide +kernel
theorem dX5_change_4 : decode cX5_change 4 = .ok (.ifCond .eq 16, 3) := by decide +kernel
theorem dX5_change_7 : decode cX5_change 7 = .ok (.iload_n 2, 1) := by decide +kernel
theorem dX5_change_8 : decode cX5_change 8 = .ok (.iconst 0, 1) := by decide +kernel
theorem dX5_change_9 : decode cX5_change 9 = .ok (.iconst 3, 1) := by decide +kernel
theorem dX5_change_10 : decode cX5_change 10 = .ok (.invokestatic 32, 3) := by decide +kernel
theorem dX5_change_13 : decode cX5_change 13 = .ok (.ifCond .eq 7, 3) := by decide +kernel
theorem dX5_change_16 : decode cX5_change 16 = .ok (.iconst 1, 1) := by decide +kernel
theorem dX5_change_17 : decode cX5_change 17 = .ok (.goto 4, 3) := by decide +kernel
theorem dX5_change_20 : decode cX5_change 20 = .ok (.iconst 0, 1) := by decide +kernel
theorem dX5_change_21 : decode cX5_change 21 = .ok (.istore_n 3, 1) := by decide +kernel
theorem dX5_change_22 : decode cX5_change 22 = .ok (.iload_n 3, 1) := by decide +kernel
theorem dX5_change_23 : decode cX5_change 23 = .ok (.ifCond .eq 15, 3) := by decide +kernel
theorem dX5_change_26 : decode cX5_change 26 = .ok (.aload_n 0, 1) := by decide +kernel
theorem dX5_change_27 : decode cX5_change 27 = .ok (.getfield 10, 3) := by decide +kernel
theorem dX5_change_30 : decode cX5_change 30 = .ok (.iload_n 1, 1) := by decide +kernel
theorem dX5_change_31 : decode cX5_change 31 = .ok (.iload_n 2, 1) := by decide +kernel
theorem dX5_change_32 : decode cX5_change 32 = .ok (.invokevirtual 76, 3) := by decide +kernel
theorem dX5_change_35 : decode cX5_change 35 = .ok (.goto 5, 3) := by decide +kernel
theorem dX5_change_38 : decode cX5_change 38 = .ok (.ldc 75, 2) := by decide +kernel
theorem dX5_change_40 : decode cX5_change 40 = .ok (.ireturn, 1) := by decide +kernel
set_option maxRecDepth 20000 in
theorem ggX5_rate_X1_has : GoodIn wsX5_rate wsX1_has := goodIn_r _ [6, 7, 8, 9] (by decide +kernel) (by decide +kernel)
set_option maxRecDepth 20000 in
theorem gX5_rate_X1_has : GoodIn wsX5_rate (va_wsS RX5 68 yX1_has wsX1_has) := goodIn_app (goodIn_of _ (by decide +kernel)) ggX5_rate_X1_has
set_option maxRecDepth 20000 in
theorem ggX5_rate_X5_isIn : GoodIn wsX5_rate wsX5_isIn := goodIn_r _ [9] (by decide +kernel) (by decide +kernel)
set_option maxRecDepth 20000 in
theorem gX5_rate_X5_isIn : GoodIn wsX5_rate (va_wsS RX5 32 yX5_isIn wsX5_isIn) := goodIn_app (goodIn_of _ (by decide +kernel)) ggX5_rate_X5_isIn
set_option maxRecDepth 20000 in
theorem ggX5_rate_X2_total : GoodIn wsX5_rate wsX2_total := goodIn_r _ [15, 16, 17, 18, 19, 20, 21, 22, 5, 23, 24, 25, 26, 27, 28, 29, 30, 31, 32, 14, 33, 34, 35, 36, 37, 38, 39, 40, 41, 42, 58, 59, 60, 61, 62, 63, 64, 65] (by decide +kernel) (by decide +kernel)
set_option maxRecDepth 20000 in
theorem gX5_rate_X2_total : GoodIn wsX5_rate (wsV RX5 71 RX2 yX2_total wsX2_total) := goodIn_app (goodIn_of _ (by decide +kernel)) ggX5_rate_X2_total
set_option maxRecDepth 20000 in
theorem ggX5_rate_X0_tell : GoodIn wsX5_rate wsX0_tell := goodIn_r _ [46, 47, 48, 49, 50, 51, 52, 53, 45, 54] (by decide +kernel) (by decide +kernel)
set_option maxRecDepth 20000 in
theorem gX5_rate_X0_tell : GoodIn wsX5_rate (va_wsS RX5 79 yX0_tell wsX0_tell) := goodIn_app (goodIn_of _ (by decide +kernel)) ggX5_rate_X0_tell
theorem dX5_rate_0 : decode cX5_rate 0 = .ok (.iload_n 1, 1) := by decide +kernel
theorem dX5_rate_1 : decode cX5_rate 1 = .ok (.invokestatic 68, 3) := by decide +kernel
theorem dX5_rate_4 : decode cX5_rate 4 = .ok (.ifCond .eq 21, 3) := by decide +kernel
theorem dX5_rate_7 : decode cX5_rate 7 = .ok (.iload_n 2, 1) := by decide +kernel
theorem dX5_rate_8 : decode cX5_rate 8 = .ok (.iconst 0, 1) := by decide +kernel
theorem dX5_rate_9 : decode cX5_rate 9 = .ok (.iconst 1, 1) := by decide +kernel
theorem dX5_rate_10 : decode cX5_rate 10 = .ok (.invokestatic 32, 3) := by decide +kernel
theorem dX5_rate_13 : decode cX5_rate 13 = .ok (.ifCond .eq 12, 3) := by decide +kernel
theorem dX5_rate_16 : decode cX5_rate 16 = .ok (.iload_n 3, 1) := by decide +kernel
theorem dX5_rate_17 : decode cX5_rate 17 = .ok (.iconst 0, 1) := by decide +kernel
theorem dX5_rate_18 : decode cX5_rate 18 = .ok (.iconst 1, 1) := by decide +kernel
theorem dX5_rate_19 : decode cX5_rate 19 = .ok (.invokestatic 32, 3) := by decide +kernel
theorem dX5_rate_22 : decode cX5_rate 22 = .ok (.ifCond .ne 6, 3) := by decide +kernel
theorem dX5_rate_25 : decode cX5_rate 25 = .ok (.ldc 75, 2) := by decide +kernel
theorem dX5_rate_27 : decode cX5_rate 27 = .ok (.ireturn, 1) := by decide +kernel
theorem dX5_rate_28 : decode cX5_rate 28 = .ok (.aload_n 0, 1) := by decide +kernel
theorem dX5_rate_29 : decode cX5_rate 29 = .ok (.getfield 10, 3) := by decide +kernel
theorem dX5_rate_32 : decode cX5_rate 32 = .ok (.iload_n 1, 1) := by decide +kernel
theorem dX5_rate_33 : decode cX5_rate 33 = .ok (.iload_n 2, 1) := by decide +kernel
theorem dX5_rate_34 : decode cX5_rate 34 = .ok (.iconst 2, 1) := by decide +kernel
theorem dX5_rate_35 : decode cX5_rate 35 = .ok (.invokevirtual 71, 3) := by decide +kernel
theorem dX5_rate_38 : decode cX5_rate 38 = .ok (.istore 4, 2) := by decide +kernel
theorem dX5_rate_40 : decode cX5_rate 40 = .ok (.iload 4, 2) := by decide +kernel
theorem dX5_rate_42 : decode cX5_rate 42 = .ok (.ifCond .ne 7, 3) := by decide +kernel
theorem dX5_rate_45 : decode cX5_rate 45 = .ok (.iconst 0, 1) := by decide +kernel
theorem dX5_rate_46 : decode cX5_rate 46 = .ok (.goto 22, 3) := by decide +kernel
theorem dX5_rate_49 : decode cX5_rate 49 = .ok (.aload_n 0, 1) := by decide +kernel
theorem dX5_rate_50 : decode cX5_rate 50 = .ok (.getfield 10, 3) := by decide +kernel
theorem dX5_rate_53 : decode cX5_rate 53 = .ok (.iload_n 1, 1) := by decide +kernel
theorem dX5_rate_54 : decode cX5_rate 54 = .ok (.iload_n 2, 1) := by decide +kernel
theorem dX5_rate_55 : decode cX5_rate 55 = .ok (.iconst 0, 1) := by decide +kernel
theorem dX5_rate_56 : decode cX5_rate 56 = .ok (.invokevirtual 71, 3) := by decide +kernel
theorem dX5_rate_59 : decode cX5_rate 59 = .ok (.i2l, 1) := by decide +kernel
theorem dX5_rate_60 : decode cX5_rate 60 = .ok (.iload 4, 2) := by decide +kernel
theorem dX5_rate_62 : decode cX5_rate 62 = .ok (.i2l, 1) := by decide +kernel
theorem dX5_rate_63 : decode cX5_rate 63 = .ok (.iload_n 3, 1) := by decide +kernel
theorem dX5_rate_64 : decode cX5_rate 64 = .ok (.invokestatic 79, 3) := by decide +kernel
theorem dX5_rate_67 : decode cX5_rate 67 = .ok (.l2i, 1) := by decide +kernel
theorem dX5_rate_68 : decode cX5_rate 68 = .ok (.ireturn, 1) := by decide +kernel
set_option maxRecDepth 20000 in
theorem ggX5_shift_X1_has : GoodIn wsX5_shift wsX1_has := goodIn_r _ [6, 7, 8, 9] (by decide +kernel) (by decide +kernel)
set_option maxRecDepth 20000 in
theorem gX5_shift_X1_has : GoodIn wsX5_shift (va_wsS RX5 68 yX1_has wsX1_has) := goodIn_app (goodIn_of _ (by decide +kernel)) ggX5_shift_X1_has
set_option maxRecDepth 20000 in
theorem ggX5_shift_X5_isIn : GoodIn wsX5_shift wsX5_isIn := goodIn_r _ [9] (by decide +kernel) (by decide +kernel)
set_option maxRecDepth 20000 in
theorem gX5_shift_X5_isIn : GoodIn wsX5_shift (va_wsS RX5 32 yX5_isIn wsX5_isIn) := goodIn_app (goodIn_of _ (by decide +kernel)) ggX5_shift_X5_isIn
set_option maxRecDepth 20000 in
theorem ggX5_shift_X2_hasRates : GoodIn wsX5_shift wsX2_hasRates := goodIn_r _ [15, 16, 17, 18, 14, 19, 20, 21, 22, 23, 24, 25, 26, 5, 27, 28, 29, 30, 31, 32, 33, 34, 35, 36, 37, 38, 39, 40, 41, 42, 43, 44, 45, 46, 66, 67, 68, 69, 70, 71, 72, 73] (by decide +kernel) (by decide +kernel)
set_option maxRecDepth 20000 in
theorem gX5_shift_X2_hasRates : GoodIn wsX5_shift (wsV RX5 85 RX2 yX2_hasRates wsX2_hasRates) := goodIn_app (goodIn_of _ (by decide +kernel)) ggX5_shift_X2_hasRates
set_option maxRecDepth 20000 in
theorem ggX5_shift_X0_difference : GoodIn wsX5_shift wsX0_difference := goodIn_r _ [50, 51, 17, 18, 14, 19, 20, 21, 22, 23, 24, 25, 26, 5, 27, 28, 29, 30, 31, 32, 33, 34, 35, 36, 37, 38, 39, 40, 41, 42, 43, 44, 45, 46, 52, 53, 49, 54, 55, 56, 57, 58, 59, 60, 61, 62, 66, 67, 68, 69, 70, 71, 72, 73] (by decide +kernel) (by decide +kernel)
set_option maxRecDepth 20000 in
theorem gX5_shift_X0_difference : GoodIn wsX5_shift (va_wsS RX5 90 yX0_difference wsX0_difference) := goodIn_app (goodIn_of _ (by decide +kernel)) ggX5_shift_X0_difference
theorem dX5_shift_0 : decode cX5_shift 0 = .ok (.iload_n 1, 1) := by decide +kernel
theorem dX5_shift_1 : decode cX5_shift 1 = .ok (.invokestatic 68, 3) := by decide +kernel
theorem dX5_shift_4 : decode cX5_shift 4 = .ok (.ifCond .eq 23, 3) := by decide +kernel
theorem dX5_shift_7 : decode cX5_shift 7 = .ok (.iload_n 2, 1) := by decide +kernel
theorem dX5_shift_8 : decode cX5_shift 8 = .ok (.iconst 0, 1) := by decide +kernel
theorem dX5_shift_9 : decode cX5_shift 9 = .ok (.iconst 1, 1) := by decide +kernel
theorem dX5_shift_10 : decode cX5_shift 10 = .ok (.invokestatic 32, 3) := by decide +kernel
theorem dX5_shift_13 : decode cX5_shift 13 = .ok (.ifCond .eq 14, 3) := by decide +kernel
theorem dX5_shift_16 : decode cX5_shift 16 = .ok (.aload_n 0, 1) := by decide +kernel
theorem dX5_shift_17 : decode cX5_shift 17 = .ok (.getfield 10, 3) := by decide +kernel
theorem dX5_shift_20 : decode cX5_shift 20 = .ok (.iload_n 1, 1) := by decide +kernel
theorem dX5_shift_21 : decode cX5_shift 21 = .ok (.invokevirtual 85, 3) := by decide +kernel
theorem dX5_shift_24 : decode cX5_shift 24 = .ok (.ifCond .ne 7, 3) := by decide +kernel
theorem dX5_shift_27 : decode cX5_shift 27 = .ok (.ldc2_w 88, 3) := by decide +kernel
theorem dX5_shift_30 : decode cX5_shift 30 = .ok (.lreturn, 1) := by decide +kernel
theorem dX5_shift_31 : decode cX5_shift 31 = .ok (.aload_n 0, 1) := by decide +kernel
theorem dX5_shift_32 : decode cX5_shift 32 = .ok (.getfield 10, 3) := by decide +kernel
theorem dX5_shift_35 : decode cX5_shift 35 = .ok (.iload_n 1, 1) := by decide +kernel
theorem dX5_shift_36 : decode cX5_shift 36 = .ok (.iload_n 1, 1) := by decide +kernel
theorem dX5_shift_37 : decode cX5_shift 37 = .ok (.iload_n 2, 1) := by decide +kernel
theorem dX5_shift_38 : decode cX5_shift 38 = .ok (.invokestatic 90, 3) := by decide +kernel
theorem dX5_shift_41 : decode cX5_shift 41 = .ok (.lreturn, 1) := by decide +kernel
set_option maxRecDepth 20000 in
theorem ggX5_part_X1_isOpen : GoodIn wsX5_part wsX1_isOpen := goodIn_r _ [6, 7, 8, 5, 9, 10, 11, 12, 13, 14, 15] (by decide +kernel) (by decide +kernel)
set_option maxRecDepth 20000 in
theorem gX5_part_X1_isOpen : GoodIn wsX5_part (va_wsS RX5 94 yX1_isOpen wsX1_isOpen) := goodIn_app (goodIn_of _ (by decide +kernel)) ggX5_part_X1_isOpen
set_option maxRecDepth 20000 in
theorem ggX5_part_X5_isIn : GoodIn wsX5_part wsX5_isIn := goodIn_r _ [12] (by decide +kernel) (by decide +kernel)
set_option maxRecDepth 20000 in
theorem gX5_part_X5_isIn : GoodIn wsX5_part (va_wsS RX5 32 yX5_isIn wsX5_isIn) := goodIn_app (goodIn_of _ (by decide +kernel)) ggX5_part_X5_isIn
set_option maxRecDepth 20000 in
theorem ggX5_part_X2_hasRates : GoodIn wsX5_part wsX2_hasRates := goodIn_r _ [21, 22, 23, 24, 20, 25, 26, 27, 28, 29, 30, 31, 32, 5, 33, 13, 14, 15, 34, 35, 36, 37, 38, 39, 40, 41, 42, 43, 44, 45, 46, 47, 48, 49, 79, 80, 81, 82, 83, 84, 85, 86] (by decide +kernel) (by decide +kernel)
set_option maxRecDepth 20000 in
theorem gX5_part_X2_hasRates : GoodIn wsX5_part (wsV RX5 85 RX2 yX2_hasRates wsX2_hasRates) := goodIn_app (goodIn_of _ (by decide +kernel)) ggX5_part_X2_hasRates
set_option maxRecDepth 20000 in
theorem ggX5_part_X1_withTest : GoodIn wsX5_part wsX1_withTest := goodIn_r _ [52, 53, 54, 4, 5, 6, 7, 8, 9, 10, 11, 12, 13, 14, 15] (by decide +kernel) (by decide +kernel)
set_option maxRecDepth 20000 in
theorem gX5_part_X1_withTest : GoodIn wsX5_part (va_wsS RX5 98 yX1_withTest wsX1_withTest) := goodIn_app (goodIn_of _ (by decide +kernel)) ggX5_part_X1_withTest
set_option maxRecDepth 20000 in
theorem ggX5_part_X0_parted : GoodIn wsX5_part wsX0_parted := goodIn_r _ [58, 59, 60, 23, 24, 20, 25, 26, 27, 28, 29, 30, 31, 32, 5, 33, 13, 14, 15, 34, 35, 36, 37, 38, 39, 40, 41, 42, 43, 44, 45, 46, 47, 48, 49, 61, 62, 57, 63, 64, 65, 66, 67, 68, 69, 70, 71, 79, 80, 81, 82, 83, 84, 85, 86] (by decide +kernel) (by decide +kernel)
set_option maxRecDepth 20000 in
theorem gX5_part_X0_parted : GoodIn wsX5_part (va_wsS RX5 101 yX0_parted wsX0_parted) := goodIn_app (goodIn_of _ (by decide +kernel)) ggX5_part_X0_parted
set_option maxRecDepth 20000 in
theorem ggX5_part_X0_tell : GoodIn wsX5_part wsX0_tell := goodIn_r _ [63, 64, 65, 66, 67, 68, 69, 70, 57, 71] (by decide +kernel) (by decide +kernel)
set_option maxRecDepth 20000 in
theorem gX5_part_X0_tell : GoodIn wsX5_part (va_wsS RX5 79 yX0_tell wsX0_tell) := goodIn_app (goodIn_of _ (by decide +kernel)) ggX5_part_X0_tell
set_option maxRecDepth 20000 in
theorem ggX5_part_X0_difference : GoodIn wsX5_part wsX0_difference := goodIn_r _ [75, 60, 23, 24, 20, 25, 26, 27, 28, 29, 30, 31, 32, 5, 33, 13, 14, 15, 34, 35, 36, 37, 38, 39, 40, 41, 42, 43, 44, 45, 46, 47, 48, 49, 61, 62, 57, 63, 64, 65, 66, 67, 68, 69, 70, 71, 79, 80, 81, 82, 83, 84, 85, 86] (by decide +kernel) (by decide +kernel)
set_option maxRecDepth 20000 in
theorem gX5_part_X0_difference : GoodIn wsX5_part (va_wsS RX5 90 yX0_difference wsX0_difference) := goodIn_app (goodIn_of _ (by decide +kernel)) ggX5_part_X0_difference
theorem dX5_part_0 : decode cX5_part 0 = .ok (.iload_n 1, 1) := by decide +kernel
theorem dX5_part_1 : decode cX5_part 1 = .ok (.iload_n 2, 1) := by decide +kernel
theorem dX5_part_2 : decode cX5_part 2 = .ok (.invokestatic 94, 3) := by decide +kernel
theorem dX5_part_5 : decode cX5_part 5 = .ok (.ifCond .eq 13, 3) := by decide +kernel
theorem dX5_part_8 : decode cX5_part 8 = .ok (.iload_n 3, 1) := by decide +kernel
theorem dX5_part_9 : decode cX5_part 9 = .ok (.iconst 0, 1) := by decide +kernel
theorem dX5_part_10 : decode cX5_part 10 = .ok (.bipush 7, 2) := by decide +kernel
theorem dX5_part_12 : decode cX5_part 12 = .ok (.invokestatic 32, 3) := by decide +kernel
theorem dX5_part_15 : decode cX5_part 15 = .ok (.ifCond .ne 7, 3) := by decide +kernel
theorem dX5_part_18 : decode cX5_part 18 = .ok (.ldc2_w 88, 3) := by decide +kernel
theorem dX5_part_21 : decode cX5_part 21 = .ok (.lreturn, 1) := by decide +kernel
theorem dX5_part_22 : decode cX5_part 22 = .ok (.iload 4, 2) := by decide +kernel
theorem dX5_part_24 : decode cX5_part 24 = .ok (.iconst 0, 1) := by decide +kernel
theorem dX5_part_25 : decode cX5_part 25 = .ok (.iconst 1, 1) := by decide +kernel
theorem dX5_part_26 : decode cX5_part 26 = .ok (.invokestatic 32, 3) := by decide +kernel
theorem dX5_part_29 : decode cX5_part 29 = .ok (.ifCond .eq 24, 3) := by decide +kernel
theorem dX5_part_32 : decode cX5_part 32 = .ok (.iload 5, 2) := by decide +kernel
theorem dX5_part_34 : decode cX5_part 34 = .ok (.iconst 0, 1) := by decide +kernel
theorem dX5_part_35 : decode cX5_part 35 = .ok (.iconst 1, 1) := by decide +kernel
theorem dX5_part_36 : decode cX5_part 36 = .ok (.invokestatic 32, 3) := by decide +kernel
theorem dX5_part_39 : decode cX5_part 39 = .ok (.ifCond .eq 14, 3) := by decide +kernel
theorem dX5_part_42 : decode cX5_part 42 = .ok (.aload_n 0, 1) := by decide +kernel
theorem dX5_part_43 : decode cX5_part 43 = .ok (.getfield 10, 3) := by decide +kernel
theorem dX5_part_46 : decode cX5_part 46 = .ok (.iload_n 1, 1) := by decide +kernel
theorem dX5_part_47 : decode cX5_part 47 = .ok (.invokevirtual 85, 3) := by decide +kernel
theorem dX5_part_50 : decode cX5_part 50 = .ok (.ifCond .ne 7, 3) := by decide +kernel
theorem dX5_part_53 : decode cX5_part 53 = .ok (.ldc2_w 88, 3) := by decide +kernel
theorem dX5_part_56 : decode cX5_part 56 = .ok (.lreturn, 1) := by decide +kernel
theorem dX5_part_57 : decode cX5_part 57 = .ok (.iload_n 1, 1) := by decide +kernel
theorem dX5_part_58 : decode cX5_part 58 = .ok (.iload_n 2, 1) := by decide +kernel
theorem dX5_part_59 : decode cX5_part 59 = .ok (.iload_n 3, 1) := by decide +kernel
theorem dX5_part_60 : decode cX5_part 60 = .ok (.invokestatic 98, 3) := by decide +kernel
theorem dX5_part_63 : decode cX5_part 63 = .ok (.istore 6, 2) := by decide +kernel
theorem dX5_part_65 : decode cX5_part 65 = .ok (.aload_n 0, 1) := by decide +kernel
theorem dX5_part_66 : decode cX5_part 66 = .ok (.getfield 10, 3) := by decide +kernel
theorem dX5_part_69 : decode cX5_part 69 = .ok (.iload 6, 2) := by decide +kernel
theorem dX5_part_71 : decode cX5_part 71 = .ok (.invokevirtual 85, 3) := by decide +kernel
theorem dX5_part_74 : decode cX5_part 74 = .ok (.ifCond .eq 18, 3) := by decide +kernel
theorem dX5_part_77 : decode cX5_part 77 = .ok (.aload_n 0, 1) := by decide +kernel
theorem dX5_part_78 : decode cX5_part 78 = .ok (.getfield 10, 3) := by decide +kernel
theorem dX5_part_81 : decode cX5_part 81 = .ok (.iload_n 1, 1) := by decide +kernel
theorem dX5_part_82 : decode cX5_part 82 = .ok (.iload 6, 2) := by decide +kernel
theorem dX5_part_84 : decode cX5_part 84 = .ok (.iload 4, 2) := by decide +kernel
theorem dX5_part_86 : decode cX5_part 86 = .ok (.iload 5, 2) := by decide +kernel
theorem dX5_part_88 : decode cX5_part 88 = .ok (.invokestatic 101, 3) := by decide +kernel
theorem dX5_part_91 : decode cX5_part 91 = .ok (.lreturn, 1) := by decide +kernel
theorem dX5_part_92 : decode cX5_part 92 = .ok (.iload 4, 2) := by decide +kernel
theorem dX5_part_94 : decode cX5_part 94 = .ok (.ifCond .ne 13, 3) := by decide +kernel
theorem dX5_part_97 : decode cX5_part 97 = .ok (.lconst 0, 1) := by decide +kernel
theorem dX5_part_98 : decode cX5_part 98 = .ok (.lconst 1, 1) := by decide +kernel
theorem dX5_part_99 : decode cX5_part 99 = .ok (.iload 5, 2) := by decide +kernel
theorem dX5_part_101 : decode cX5_part 101 = .ok (.invokestatic 79, 3) := by decide +kernel
theorem dX5_part_104 : decode cX5_part 104 = .ok (.goto 15, 3) := by decide +kernel
theorem dX5_part_107 : decode cX5_part 107 = .ok (.aload_n 0, 1) := by decide +kernel
theorem dX5_part_108 : decode cX5_part 108 = .ok (.getfield 10, 3) := by decide +kernel
theorem dX5_part_111 : decode cX5_part 111 = .ok (.iload 6, 2) := by decide +kernel
theorem dX5_part_113 : decode cX5_part 113 = .ok (.iload_n 1, 1) := by decide +kernel
theorem dX5_part_114 : decode cX5_part 114 = .ok (.iload 5, 2) := by decide +kernel
theorem dX5_part_116 : decode cX5_part 116 = .ok (.invokestatic 90, 3) := by decide +kernel
theorem dX5_part_119 : decode cX5_part 119 = .ok (.lreturn, 1) := by decide +kernel
set_option maxRecDepth 20000 in
theorem ggX5_moves_X5_isIn : GoodIn wsX5_moves wsX5_isIn := goodIn_r _ [5] (by decide +kernel) (by decide +kernel)
set_option maxRecDepth 20000 in
theorem gX5_moves_X5_isIn : GoodIn wsX5_moves (va_wsS RX5 32 yX5_isIn wsX5_isIn) := goodIn_app (goodIn_of _ (by decide +kernel)) ggX5_moves_X5_isIn
set_option maxRecDepth 20000 in
theorem ggX5_moves_X2_wayOf : GoodIn wsX5_moves wsX2_wayOf := goodIn_r _ [10, 11, 12, 13, 9, 14, 15, 16, 17, 18, 19, 20, 21, 22, 23, 27, 28, 29, 30, 31, 32, 33, 34] (by decide +kernel) (by decide +kernel)
set_option maxRecDepth 20000 in
theorem gX5_moves_X2_wayOf : GoodIn wsX5_moves (wsV RX5 105 RX2 yX2_wayOf wsX2_wayOf) := goodIn_app (goodIn_of _ (by decide +kernel)) ggX5_moves_X2_wayOf
theorem dX5_moves_0 : decode cX5_moves 0 = .ok (.iload_n 1, 1) := by decide +kernel
theorem dX5_moves_1 : decode cX5_moves 1 = .ok (.iconst 0, 1) := by decide +kernel
theorem dX5_moves_2 : decode cX5_moves 2 = .ok (.iconst 2, 1) := by decide +kernel
theorem dX5_moves_3 : decode cX5_moves 3 = .ok (.invokestatic 32, 3) := by decide +kernel
theorem dX5_moves_6 : decode cX5_moves 6 = .ok (.ifCond .eq 12, 3) := by decide +kernel
theorem dX5_moves_9 : decode cX5_moves 9 = .ok (.iload_n 2, 1) := by decide +kernel
theorem dX5_moves_10 : decode cX5_moves 10 = .ok (.iconst 0, 1) := by decide +kernel
theorem dX5_moves_11 : decode cX5_moves 11 = .ok (.iconst 3, 1) := by decide +kernel
theorem dX5_moves_12 : decode cX5_moves 12 = .ok (.invokestatic 32, 3) := by decide +kernel
theorem dX5_moves_15 : decode cX5_moves 15 = .ok (.ifCond .ne 5, 3) := by decide +kernel
theorem dX5_moves_18 : decode cX5_moves 18 = .ok (.iconst (-1), 1) := by decide +kernel
theorem dX5_moves_19 : decode cX5_moves 19 = .ok (.ireturn, 1) := by decide +kernel
theorem dX5_moves_20 : decode cX5_moves 20 = .ok (.iconst 0, 1) := by decide +kernel
theorem dX5_moves_21 : decode cX5_moves 21 = .ok (.istore_n 3, 1) := by decide +kernel
theorem dX5_moves_22 : decode cX5_moves 22 = .ok (.iconst 0, 1) := by decide +kernel
theorem dX5_moves_23 : decode cX5_moves 23 = .ok (.istore 4, 2) := by decide +kernel
theorem dX5_moves_25 : decode cX5_moves 25 = .ok (.iload 4, 2) := by decide +kernel
theorem dX5_moves_27 : decode cX5_moves 27 = .ok (.bipush 64, 2) := by decide +kernel
theorem dX5_moves_29 : decode cX5_moves 29 = .ok (.if_icmp .ge 26, 3) := by decide +kernel
theorem dX5_moves_32 : decode cX5_moves 32 = .ok (.aload_n 0, 1) := by decide +kernel
theorem dX5_moves_33 : decode cX5_moves 33 = .ok (.getfield 10, 3) := by decide +kernel
theorem dX5_moves_36 : decode cX5_moves 36 = .ok (.iload_n 1, 1) := by decide +kernel
theorem dX5_moves_37 : decode cX5_moves 37 = .ok (.iload 4, 2) := by decide +kernel
theorem dX5_moves_39 : decode cX5_moves 39 = .ok (.invokevirtual 105, 3) := by decide +kernel
theorem dX5_moves_42 : decode cX5_moves 42 = .ok (.iload_n 2, 1) := by decide +kernel
theorem dX5_moves_43 : decode cX5_moves 43 = .ok (.if_icmp .ne 6, 3) := by decide +kernel
theorem dX5_moves_46 : decode cX5_moves 46 = .ok (.iinc 3 1, 3) := by decide +kernel
theorem dX5_moves_49 : decode cX5_moves 49 = .ok (.iinc 4 1, 3) := by decide +kernel
theorem dX5_moves_52 : decode cX5_moves 52 = .ok (.goto (-27), 3) := by decide +kernel
theorem dX5_moves_55 : decode cX5_moves 55 = .ok (.iload_n 3, 1) := by decide +kernel
theorem dX5_moves_56 : decode cX5_moves 56 = .ok (.ireturn, 1) := by decide +kernel
set_option maxRecDepth 20000 in
theorem ggX5_move_X5_isIn : GoodIn wsX5_move wsX5_isIn := goodIn_r _ [5] (by decide +kernel) (by decide +kernel)
set_option maxRecDepth 20000 in
theorem gX5_move_X5_isIn : GoodIn wsX5_move (va_wsS RX5 32 yX5_isIn wsX5_isIn) := goodIn_app (goodIn_of _ (by decide +kernel)) ggX5_move_X5_isIn
set_option maxRecDepth 20000 in
theorem ggX5_move_X5_isMember : GoodIn wsX5_move wsX5_isMember := goodIn_r _ [8, 2, 3, 4, 5] (by decide +kernel) (by decide +kernel)
set_option maxRecDepth 20000 in
theorem gX5_move_X5_isMember : GoodIn wsX5_move (va_wsS RX5 43 yX5_isMember wsX5_isMember) := goodIn_app (goodIn_of _ (by decide +kernel)) ggX5_move_X5_isMember
set_option maxRecDepth 20000 in
theorem ggX5_move_X2_wayOf : GoodIn wsX5_move wsX2_wayOf := goodIn_r _ [13, 14, 15, 16, 12, 17, 18, 19, 20, 21, 22, 23, 24, 25, 26, 30, 31, 32, 33, 34, 35, 36, 37] (by decide +kernel) (by decide +kernel)
set_option maxRecDepth 20000 in
theorem gX5_move_X2_wayOf : GoodIn wsX5_move (wsV RX5 105 RX2 yX2_wayOf wsX2_wayOf) := goodIn_app (goodIn_of _ (by decide +kernel)) ggX5_move_X2_wayOf
theorem dX5_move_0 : decode cX5_move 0 = .ok (.iload_n 1, 1) := by decide +kernel
theorem dX5_move_1 : decode cX5_move 1 = .ok (.iconst 0, 1) := by decide +kernel
theorem dX5_move_2 : decode cX5_move 2 = .ok (.iconst 2, 1) := by decide +kernel
theorem dX5_move_3 : decode cX5_move 3 = .ok (.invokestatic 32, 3) := by decide +kernel
theorem dX5_move_6 : decode cX5_move 6 = .ok (.ifCond .eq 22, 3) := by decide +kernel
theorem dX5_move_9 : decode cX5_move 9 = .ok (.iload_n 2, 1) := by decide +kernel
theorem dX5_move_10 : decode cX5_move 10 = .ok (.invokestatic 43, 3) := by decide +kernel
theorem dX5_move_13 : decode cX5_move 13 = .ok (.ifCond .eq 15, 3) := by decide +kernel
theorem dX5_move_16 : decode cX5_move 16 = .ok (.aload_n 0, 1) := by decide +kernel
theorem dX5_move_17 : decode cX5_move 17 = .ok (.getfield 10, 3) := by decide +kernel
theorem dX5_move_20 : decode cX5_move 20 = .ok (.iload_n 1, 1) := by decide +kernel
theorem dX5_move_21 : decode cX5_move 21 = .ok (.iload_n 2, 1) := by decide +kernel
theorem dX5_move_22 : decode cX5_move 22 = .ok (.invokevirtual 105, 3) := by decide +kernel
theorem dX5_move_25 : decode cX5_move 25 = .ok (.goto 4, 3) := by decide +kernel
theorem dX5_move_28 : decode cX5_move 28 = .ok (.iconst (-1), 1) := by decide +kernel
theorem dX5_move_29 : decode cX5_move 29 = .ok (.ireturn, 1) := by decide +kernel
set_option maxRecDepth 20000 in
theorem ggX5_rounded_X1_isOpen : GoodIn wsX5_rounded wsX1_isOpen := goodIn_r _ [6, 7, 8, 5, 9, 10, 11, 12, 13, 14, 15] (by decide +kernel) (by decide +kernel)
set_option maxRecDepth 20000 in
theorem gX5_rounded_X1_isOpen : GoodIn wsX5_rounded (va_wsS RX5 94 yX1_isOpen wsX1_isOpen) := goodIn_app (goodIn_of _ (by decide +kernel)) ggX5_rounded_X1_isOpen
set_option maxRecDepth 20000 in
theorem ggX5_rounded_X5_isIn : GoodIn wsX5_rounded wsX5_isIn := goodIn_r _ [12] (by decide +kernel) (by decide +kernel)
set_option maxRecDepth 20000 in
theorem gX5_rounded_X5_isIn : GoodIn wsX5_rounded (va_wsS RX5 32 yX5_isIn wsX5_isIn) := goodIn_app (goodIn_of _ (by decide +kernel)) ggX5_rounded_X5_isIn
set_option maxRecDepth 20000 in
theorem ggX5_rounded_X2_inUnits : GoodIn wsX5_rounded wsX2_inUnits := goodIn_r _ [21, 22, 23, 24, 25, 20, 26, 27, 28, 29, 30, 31, 32, 33, 34, 35, 36, 37, 5, 38, 13, 14, 15, 39, 40, 41, 42, 43, 44, 45, 46, 47, 48, 49, 50, 51, 52, 53, 54, 55, 56, 57, 58, 59, 60, 61, 62, 63, 4, 6, 7, 8, 9, 10, 11, 12, 64, 65, 66, 70, 71, 72, 73, 74, 75, 76, 77] (by decide +kernel) (by decide +kernel)
set_option maxRecDepth 20000 in
theorem gX5_rounded_X2_inUnits : GoodIn wsX5_rounded (wsV RX5 108 RX2 yX2_inUnits wsX2_inUnits) := goodIn_app (goodIn_of _ (by decide +kernel)) ggX5_rounded_X2_inUnits
theorem dX5_rounded_0 : decode cX5_rounded 0 = .ok (.iload_n 1, 1) := by decide +kernel
theorem dX5_rounded_1 : decode cX5_rounded 1 = .ok (.iload_n 2, 1) := by decide +kernel
theorem dX5_rounded_2 : decode cX5_rounded 2 = .ok (.invokestatic 94, 3) := by decide +kernel
theorem dX5_rounded_5 : decode cX5_rounded 5 = .ok (.ifCond .eq 25, 3) := by decide +kernel
theorem dX5_rounded_8 : decode cX5_rounded 8 = .ok (.iload_n 3, 1) := by decide +kernel
theorem dX5_rounded_9 : decode cX5_rounded 9 = .ok (.iconst 0, 1) := by decide +kernel
theorem dX5_rounded_10 : decode cX5_rounded 10 = .ok (.bipush 8, 2) := by decide +kernel
theorem dX5_rounded_12 : decode cX5_rounded 12 = .ok (.invokestatic 32, 3) := by decide +kernel
theorem dX5_rounded_15 : decode cX5_rounded 15 = .ok (.ifCond .eq 15, 3) := by decide +kernel
theorem dX5_rounded_18 : decode cX5_rounded 18 = .ok (.iload 4, 2) := by decide +kernel
theorem dX5_rounded_20 : decode cX5_rounded 20 = .ok (.iconst 1, 1) := by decide +kernel
theorem dX5_rounded_21 : decode cX5_rounded 21 = .ok (.sipush 1000, 3) := by decide +kernel
theorem dX5_rounded_24 : decode cX5_rounded 24 = .ok (.invokestatic 32, 3) := by decide +kernel
theorem dX5_rounded_27 : decode cX5_rounded 27 = .ok (.ifCond .ne 6, 3) := by decide +kernel
theorem dX5_rounded_30 : decode cX5_rounded 30 = .ok (.ldc 75, 2) := by decide +kernel
theorem dX5_rounded_32 : decode cX5_rounded 32 = .ok (.ireturn, 1) := by decide +kernel
theorem dX5_rounded_33 : decode cX5_rounded 33 = .ok (.aload_n 0, 1) := by decide +kernel
theorem dX5_rounded_34 : decode cX5_rounded 34 = .ok (.getfield 10, 3) := by decide +kernel
theorem dX5_rounded_37 : decode cX5_rounded 37 = .ok (.iload_n 1, 1) := by decide +kernel
theorem dX5_rounded_38 : decode cX5_rounded 38 = .ok (.iload_n 2, 1) := by decide +kernel
theorem dX5_rounded_39 : decode cX5_rounded 39 = .ok (.iload_n 3, 1) := by decide +kernel
theorem dX5_rounded_40 : decode cX5_rounded 40 = .ok (.iload 4, 2) := by decide +kernel
theorem dX5_rounded_42 : decode cX5_rounded 42 = .ok (.invokevirtual 108, 3) := by decide +kernel
theorem dX5_rounded_45 : decode cX5_rounded 45 = .ok (.ireturn, 1) := by decide +kernel
set_option maxRecDepth 20000 in
theorem ggX5_factor_X4_has : GoodIn wsX5_factor wsX4_has := goodIn_r _ [5, 6, 7, 8] (by decide +kernel) (by decide +kernel)
set_option maxRecDepth 20000 in
theorem gX5_factor_X4_has : GoodIn wsX5_factor (va_wsS RX5 112 yX4_has wsX4_has) := goodIn_app (goodIn_of _ (by decide +kernel)) ggX5_factor_X4_has
set_option maxRecDepth 20000 in
theorem ggX5_factor_X5_isIn : GoodIn wsX5_factor wsX5_isIn := goodIn_r _ [8] (by decide +kernel) (by decide +kernel)
set_option maxRecDepth 20000 in
theorem gX5_factor_X5_isIn : GoodIn wsX5_factor (va_wsS RX5 32 yX5_isIn wsX5_isIn) := goodIn_app (goodIn_of _ (by decide +kernel)) ggX5_factor_X5_isIn
set_option maxRecDepth 20000 in
theorem ggX5_factor_X4_set : GoodIn wsX5_factor wsX4_set := goodIn_r _ [13, 14, 15, 16, 3, 4, 5, 6, 7, 8, 20, 21] (by decide +kernel) (by decide +kernel)
set_option maxRecDepth 20000 in
theorem gX5_factor_X4_set : GoodIn wsX5_factor (wsV RX5 113 RX4 yX4_set wsX4_set) := goodIn_app (goodIn_of _ (by decide +kernel)) ggX5_factor_X4_set
theorem dX5_factor_0 : decode cX5_factor 0 = .ok (.iload_n 1, 1) := by decide +kernel
theorem dX5_factor_1 : decode cX5_factor 1 = .ok (.invokestatic 112, 3) := by decide +kernel
theorem dX5_factor_4 : decode cX5_factor 4 = .ok (.ifCond .eq 25, 3) := by decide +kernel
theorem dX5_factor_7 : decode cX5_factor 7 = .ok (.iload_n 2, 1) := by decide +kernel
theorem dX5_factor_8 : decode cX5_factor 8 = .ok (.bipush (-99), 2) := by decide +kernel
theorem dX5_factor_10 : decode cX5_factor 10 = .ok (.bipush 99, 2) := by decide +kernel
theorem dX5_factor_12 : decode cX5_factor 12 = .ok (.invokestatic 32, 3) := by decide +kernel
theorem dX5_factor_15 : decode cX5_factor 15 = .ok (.ifCond .eq 14, 3) := by decide +kernel
theorem dX5_factor_18 : decode cX5_factor 18 = .ok (.iload_n 3, 1) := by decide +kernel
theorem dX5_factor_19 : decode cX5_factor 19 = .ok (.bipush (-99), 2) := by decide +kernel
theorem dX5_factor_21 : decode cX5_factor 21 = .ok (.bipush 99, 2) := by decide +kernel
theorem dX5_factor_23 : decode cX5_factor 23 = .ok (.invokestatic 32, 3) := by decide +kernel
theorem dX5_factor_26 : decode cX5_factor 26 = .ok (.ifCond .ne 5, 3) := by decide +kernel
theorem dX5_factor_29 : decode cX5_factor 29 = .ok (.iconst (-1), 1) := by decide +kernel
theorem dX5_factor_30 : decode cX5_factor 30 = .ok (.ireturn, 1) := by decide +kernel
theorem dX5_factor_31 : decode cX5_factor 31 = .ok (.aload_n 0, 1) := by decide +kernel
theorem dX5_factor_32 : decode cX5_factor 32 = .ok (.getfield 19, 3) := by decide +kernel
theorem dX5_factor_35 : decode cX5_factor 35 = .ok (.iload_n 1, 1) := by decide +kernel
theorem dX5_factor_36 : decode cX5_factor 36 = .ok (.iload_n 2, 1) := by decide +kernel
theorem dX5_factor_37 : decode cX5_factor 37 = .ok (.iload_n 3, 1) := by decide +kernel
theorem dX5_factor_38 : decode cX5_factor 38 = .ok (.invokevirtual 113, 3) := by decide +kernel
theorem dX5_factor_41 : decode cX5_factor 41 = .ok (.iconst 1, 1) := by decide +kernel
theorem dX5_factor_42 : decode cX5_factor 42 = .ok (.ireturn, 1) := by decide +kernel
set_option maxRecDepth 20000 in
theorem ggX5_outcome_X5_isIn : GoodIn wsX5_outcome wsX5_isIn := goodIn_r _ [6] (by decide +kernel) (by decide +kernel)
set_option maxRecDepth 20000 in
theorem gX5_outcome_X5_isIn : GoodIn wsX5_outcome (va_wsS RX5 32 yX5_isIn wsX5_isIn) := goodIn_app (goodIn_of _ (by decide +kernel)) ggX5_outcome_X5_isIn
set_option maxRecDepth 20000 in
theorem ggX5_outcome_X4_result : GoodIn wsX5_outcome wsX4_result := goodIn_r _ [11, 12, 13, 14, 10, 15, 16, 17, 21, 22] (by decide +kernel) (by decide +kernel)
set_option maxRecDepth 20000 in
theorem gX5_outcome_X4_result : GoodIn wsX5_outcome (wsV RX5 116 RX4 yX4_result wsX4_result) := goodIn_app (goodIn_of _ (by decide +kernel)) ggX5_outcome_X4_result
theorem dX5_outcome_0 : decode cX5_outcome 0 = .ok (.iload_n 1, 1) := by decide +kernel
theorem dX5_outcome_1 : decode cX5_outcome 1 = .ok (.iconst 0, 1) := by decide +kernel
theorem dX5_outcome_2 : decode cX5_outcome 2 = .ok (.bipush 31, 2) := by decide +kernel
theorem dX5_outcome_4 : decode cX5_outcome 4 = .ok (.invokestatic 32, 3) := by decide +kernel
theorem dX5_outcome_7 : decode cX5_outcome 7 = .ok (.ifCond .eq 14, 3) := by decide +kernel
theorem dX5_outcome_10 : decode cX5_outcome 10 = .ok (.aload_n 0, 1) := by decide +kernel
theorem dX5_outcome_11 : decode cX5_outcome 11 = .ok (.getfield 19, 3) := by decide +kernel
theorem dX5_outcome_14 : decode cX5_outcome 14 = .ok (.iload_n 1, 1) := by decide +kernel
theorem dX5_outcome_15 : decode cX5_outcome 15 = .ok (.invokevirtual 116, 3) := by decide +kernel
theorem dX5_outcome_18 : decode cX5_outcome 18 = .ok (.goto 5, 3) := by decide +kernel
theorem dX5_outcome_21 : decode cX5_outcome 21 = .ok (.ldc 75, 2) := by decide +kernel
theorem dX5_outcome_23 : decode cX5_outcome 23 = .ok (.ireturn, 1) := by decide +kernel
set_option maxRecDepth 20000 in
theorem ggX5_share_X4_has : GoodIn wsX5_share wsX4_has := goodIn_r _ [7, 8, 9, 10] (by decide +kernel) (by decide +kernel)
set_option maxRecDepth 20000 in
theorem gX5_share_X4_has : GoodIn wsX5_share (va_wsS RX5 112 yX4_has wsX4_has) := goodIn_app (goodIn_of _ (by decide +kernel)) ggX5_share_X4_has
set_option maxRecDepth 20000 in
theorem ggX5_share_X5_isIn : GoodIn wsX5_share wsX5_isIn := goodIn_r _ [10] (by decide +kernel) (by decide +kernel)
set_option maxRecDepth 20000 in
theorem gX5_share_X5_isIn : GoodIn wsX5_share (va_wsS RX5 32 yX5_isIn wsX5_isIn) := goodIn_app (goodIn_of _ (by decide +kernel)) ggX5_share_X5_isIn
set_option maxRecDepth 20000 in
theorem ggX5_share_X4_overAllOrders : GoodIn wsX5_share wsX4_overAllOrders := goodIn_r _ [15, 16, 17, 5, 6, 7, 8, 9, 10, 18, 19, 20, 21, 22, 23, 24, 25, 26, 27, 28, 29, 30, 31, 32, 33, 34, 50, 51] (by decide +kernel) (by decide +kernel)
set_option maxRecDepth 20000 in
theorem gX5_share_X4_overAllOrders : GoodIn wsX5_share (wsV RX5 120 RX4 yX4_overAllOrders wsX4_overAllOrders) := goodIn_app (goodIn_of _ (by decide +kernel)) ggX5_share_X4_overAllOrders
set_option maxRecDepth 20000 in
theorem ggX5_share_X0_tell : GoodIn wsX5_share wsX0_tell := goodIn_r _ [38, 39, 40, 41, 42, 43, 44, 45, 37, 46] (by decide +kernel) (by decide +kernel)
set_option maxRecDepth 20000 in
theorem gX5_share_X0_tell : GoodIn wsX5_share (va_wsS RX5 79 yX0_tell wsX0_tell) := goodIn_app (goodIn_of _ (by decide +kernel)) ggX5_share_X0_tell
theorem dX5_share_0 : decode cX5_share 0 = .ok (.iload_n 1, 1) := by decide +kernel
theorem dX5_share_1 : decode cX5_share 1 = .ok (.invokestatic 112, 3) := by decide +kernel
theorem dX5_share_4 : decode cX5_share 4 = .ok (.ifCond .eq 12, 3) := by decide +kernel
theorem dX5_share_7 : decode cX5_share 7 = .ok (.iload_n 2, 1) := by decide +kernel
theorem dX5_share_8 : decode cX5_share 8 = .ok (.iconst 0, 1) := by decide +kernel
theorem dX5_share_9 : decode cX5_share 9 = .ok (.iconst 1, 1) := by decide +kernel
theorem dX5_share_10 : decode cX5_share 10 = .ok (.invokestatic 32, 3) := by decide +kernel
theorem dX5_share_13 : decode cX5_share 13 = .ok (.ifCond .ne 6, 3) := by decide +kernel
theorem dX5_share_16 : decode cX5_share 16 = .ok (.ldc 75, 2) := by decide +kernel
theorem dX5_share_18 : decode cX5_share 18 = .ok (.ireturn, 1) := by decide +kernel
theorem dX5_share_19 : decode cX5_share 19 = .ok (.aload_n 0, 1) := by decide +kernel
theorem dX5_share_20 : decode cX5_share 20 = .ok (.getfield 19, 3) := by decide +kernel
theorem dX5_share_23 : decode cX5_share 23 = .ok (.iload_n 1, 1) := by decide +kernel
theorem dX5_share_24 : decode cX5_share 24 = .ok (.invokevirtual 120, 3) := by decide +kernel
theorem dX5_share_27 : decode cX5_share 27 = .ok (.i2l, 1) := by decide +kernel
theorem dX5_share_28 : decode cX5_share 28 = .ok (.ldc2_w 123, 3) := by decide +kernel
theorem dX5_share_31 : decode cX5_share 31 = .ok (.iload_n 2, 1) := by decide +kernel
theorem dX5_share_32 : decode cX5_share 32 = .ok (.invokestatic 79, 3) := by decide +kernel
theorem dX5_share_35 : decode cX5_share 35 = .ok (.l2i, 1) := by decide +kernel
theorem dX5_share_36 : decode cX5_share 36 = .ok (.ireturn, 1) := by decide +kernel
set_option maxRecDepth 20000 in
theorem ggX5_expect_X5_isIn : GoodIn wsX5_expect wsX5_isIn := goodIn_r _ [6] (by decide +kernel) (by decide +kernel)
set_option maxRecDepth 20000 in
theorem gX5_expect_X5_isIn : GoodIn wsX5_expect (va_wsS RX5 32 yX5_isIn wsX5_isIn) := goodIn_app (goodIn_of _ (by decide +kernel)) ggX5_expect_X5_isIn
set_option maxRecDepth 20000 in
theorem ggX5_expect_X3_setExpected : GoodIn wsX5_expect wsX3_setExpected := goodIn_r _ [11, 12, 16, 17, 18, 19, 20, 21, 22, 23, 24, 25, 26, 27, 28, 29] (by decide +kernel) (by decide +kernel)
set_option maxRecDepth 20000 in
theorem gX5_expect_X3_setExpected : GoodIn wsX5_expect (wsV RX5 125 RX3 yX3_setExpected wsX3_setExpected) := goodIn_app (goodIn_of _ (by decide +kernel)) ggX5_expect_X3_setExpected
theorem dX5_expect_0 : decode cX5_expect 0 = .ok (.iload_n 1, 1) := by decide +kernel
theorem dX5_expect_1 : decode cX5_expect 1 = .ok (.sipush (-9999), 3) := by decide +kernel
theorem dX5_expect_4 : decode cX5_expect 4 = .ok (.sipush 9999, 3) := by decide +kernel
theorem dX5_expect_7 : decode cX5_expect 7 = .ok (.invokestatic 32, 3) := by decide +kernel
theorem dX5_expect_10 : decode cX5_expect 10 = .ok (.ifCond .eq 14, 3) := by decide +kernel
theorem dX5_expect_13 : decode cX5_expect 13 = .ok (.aload_n 0, 1) := by decide +kernel
theorem dX5_expect_14 : decode cX5_expect 14 = .ok (.getfield 28, 3) := by decide +kernel
theorem dX5_expect_17 : decode cX5_expect 17 = .ok (.iload_n 1, 1) := by decide +kernel
theorem dX5_expect_18 : decode cX5_expect 18 = .ok (.invokevirtual 125, 3) := by decide +kernel
theorem dX5_expect_21 : decode cX5_expect 21 = .ok (.goto 5, 3) := by decide +kernel
theorem dX5_expect_24 : decode cX5_expect 24 = .ok (.ldc 75, 2) := by decide +kernel
theorem dX5_expect_26 : decode cX5_expect 26 = .ok (.ireturn, 1) := by decide +kernel
set_option maxRecDepth 20000 in
theorem ggX5_seek_X5_isCost : GoodIn wsX5_seek wsX5_isCost := goodIn_r _ [5, 6, 7, 4, 8] (by decide +kernel) (by decide +kernel)
set_option maxRecDepth 20000 in
theorem gX5_seek_X5_isCost : GoodIn wsX5_seek (va_wsS RX5 128 yX5_isCost wsX5_isCost) := goodIn_app (goodIn_of _ (by decide +kernel)) ggX5_seek_X5_isCost
set_option maxRecDepth 20000 in
theorem ggX5_seek_X5_isIn : GoodIn wsX5_seek wsX5_isIn := goodIn_r _ [8] (by decide +kernel) (by decide +kernel)
set_option maxRecDepth 20000 in
theorem gX5_seek_X5_isIn : GoodIn wsX5_seek (va_wsS RX5 32 yX5_isIn wsX5_isIn) := goodIn_app (goodIn_of _ (by decide +kernel)) ggX5_seek_X5_isIn
set_option maxRecDepth 20000 in
theorem ggX5_seek_X3_findBest : GoodIn wsX5_seek wsX3_findBest := goodIn_r _ [13, 14, 15, 16, 17, 18, 19, 20, 21, 22, 12, 23, 24, 25, 26, 27, 28, 29, 30, 31, 32, 33, 34, 35, 36, 37, 38, 39, 40, 41, 42, 43, 44, 45, 46, 47, 48, 49, 50, 51, 52, 53, 54, 55, 56, 57, 58, 59, 60, 61, 62, 63, 64, 65, 66, 67, 68, 69, 70, 71, 72, 73, 74, 75, 76, 77, 78, 79, 80, 81, 82, 83, 84, 85, 86, 87, 88, 89, 90, 91, 92, 93, 94, 95, 96, 97, 98, 99, 100, 101, 102, 106, 107, 108, 109, 110, 111, 112, 113, 114, 115, 116, 117, 118, 119, 120, 121, 122, 123, 124, 125, 126, 127] (by decide +kernel) (by decide +kernel)
set_option maxRecDepth 20000 in
theorem gX5_seek_X3_findBest : GoodIn wsX5_seek (wsV RX5 131 RX3 yX3_findBest wsX3_findBest) := goodIn_app (goodIn_of _ (by decide +kernel)) ggX5_seek_X3_findBest
theorem dX5_seek_0 : decode cX5_seek 0 = .ok (.iload_n 1, 1) := by decide +kernel
theorem dX5_seek_1 : decode cX5_seek 1 = .ok (.invokestatic 128, 3) := by decide +kernel
theorem dX5_seek_4 : decode cX5_seek 4 = .ok (.ifCond .eq 24, 3) := by decide +kernel
theorem dX5_seek_7 : decode cX5_seek 7 = .ok (.iload_n 2, 1) := by decide +kernel
theorem dX5_seek_8 : decode cX5_seek 8 = .ok (.iconst 0, 1) := by decide +kernel
theorem dX5_seek_9 : decode cX5_seek 9 = .ok (.iconst 2, 1) := by decide +kernel
theorem dX5_seek_10 : decode cX5_seek 10 = .ok (.invokestatic 32, 3) := by decide +kernel
theorem dX5_seek_13 : decode cX5_seek 13 = .ok (.ifCond .eq 15, 3) := by decide +kernel
theorem dX5_seek_16 : decode cX5_seek 16 = .ok (.aload_n 0, 1) := by decide +kernel
theorem dX5_seek_17 : decode cX5_seek 17 = .ok (.getfield 28, 3) := by decide +kernel
theorem dX5_seek_20 : decode cX5_seek 20 = .ok (.iload_n 1, 1) := by decide +kernel
theorem dX5_seek_21 : decode cX5_seek 21 = .ok (.iload_n 2, 1) := by decide +kernel
theorem dX5_seek_22 : decode cX5_seek 22 = .ok (.invokevirtual 131, 3) := by decide +kernel
theorem dX5_seek_25 : decode cX5_seek 25 = .ok (.goto 4, 3) := by decide +kernel
theorem dX5_seek_28 : decode cX5_seek 28 = .ok (.iconst (-1), 1) := by decide +kernel
theorem dX5_seek_29 : decode cX5_seek 29 = .ok (.ireturn, 1) := by decide +kernel
set_option maxRecDepth 20000 in
theorem ggX5_story_X3_ofBest : GoodIn wsX5_story wsX3_ofBest := goodIn_r _ [6, 7, 8, 9, 10, 11, 12, 16, 17, 18, 19, 20, 21, 22, 23, 24, 25, 26, 27, 28, 29] (by decide +kernel) (by decide +kernel)
set_option maxRecDepth 20000 in
theorem gX5_story_X3_ofBest : GoodIn wsX5_story (wsV RX5 134 RX3 yX3_ofBest wsX3_ofBest) := goodIn_app (goodIn_of _ (by decide +kernel)) ggX5_story_X3_ofBest
theorem dX5_story_0 : decode cX5_story 0 = .ok (.aload_n 0, 1) := by decide +kernel
theorem dX5_story_1 : decode cX5_story 1 = .ok (.getfield 28, 3) := by decide +kernel
theorem dX5_story_4 : decode cX5_story 4 = .ok (.iload_n 1, 1) := by decide +kernel
theorem dX5_story_5 : decode cX5_story 5 = .ok (.invokevirtual 134, 3) := by decide +kernel
theorem dX5_story_8 : decode cX5_story 8 = .ok (.ireturn, 1) := by decide +kernel
set_option maxRecDepth 20000 in
theorem ggX5_toll_X5_isCost : GoodIn wsX5_toll wsX5_isCost := goodIn_r _ [6, 7, 8, 5, 9] (by decide +kernel) (by decide +kernel)
set_option maxRecDepth 20000 in
theorem gX5_toll_X5_isCost : GoodIn wsX5_toll (va_wsS RX5 128 yX5_isCost wsX5_isCost) := goodIn_app (goodIn_of _ (by decide +kernel)) ggX5_toll_X5_isCost
set_option maxRecDepth 20000 in
theorem ggX5_toll_X3_mayTell : GoodIn wsX5_toll wsX3_mayTell := goodIn_r _ [14, 15, 16, 17, 18, 19, 8, 5, 9, 20, 21, 22, 23, 24, 25, 26, 27, 28, 29, 30, 31, 32, 33, 34, 35, 36, 37, 38, 39, 40, 41, 42, 43, 44, 45, 46, 47, 89, 90, 91, 92, 93, 94, 95, 96, 97, 98, 99, 100, 101, 102, 103, 104, 105, 106, 107, 108, 109, 110] (by decide +kernel) (by decide +kernel)
set_option maxRecDepth 20000 in
theorem gX5_toll_X3_mayTell : GoodIn wsX5_toll (wsV RX5 137 RX3 yX3_mayTell wsX3_mayTell) := goodIn_app (goodIn_of _ (by decide +kernel)) ggX5_toll_X3_mayTell
set_option maxRecDepth 20000 in
theorem ggX5_toll_X2_moved : GoodIn wsX5_toll wsX2_moved := goodIn_r _ [51, 52, 53, 54, 29, 55, 31, 56, 57, 58, 59, 36, 37, 18, 38, 23, 24, 25, 39, 40, 41, 42, 43, 44, 45, 46, 47, 60, 61, 62, 63, 64, 65, 66, 103, 104, 105, 106, 107, 108, 109, 110] (by decide +kernel) (by decide +kernel)
set_option maxRecDepth 20000 in
theorem gX5_toll_X2_moved : GoodIn wsX5_toll (wsV RX5 76 RX2 yX2_moved wsX2_moved) := goodIn_app (goodIn_of _ (by decide +kernel)) ggX5_toll_X2_moved
set_option maxRecDepth 20000 in
theorem ggX5_toll_X1_tests : GoodIn wsX5_toll wsX1_tests := goodIn_r _ [22, 23, 24, 18, 25] (by decide +kernel) (by decide +kernel)
set_option maxRecDepth 20000 in
theorem gX5_toll_X1_tests : GoodIn wsX5_toll (va_wsS RX5 140 yX1_tests wsX1_tests) := goodIn_app (goodIn_of _ (by decide +kernel)) ggX5_toll_X1_tests
set_option maxRecDepth 20000 in
theorem ggX5_toll_X3_tollOf : GoodIn wsX5_toll wsX3_tollOf := goodIn_r _ [71, 72, 73, 34, 74, 75, 76, 77, 13, 78, 15, 79, 80, 49, 50, 29, 51, 52, 53, 54, 55, 31, 56, 57, 58, 59, 36, 37, 18, 38, 23, 24, 25, 39, 40, 41, 42, 43, 44, 45, 46, 47, 60, 61, 62, 63, 64, 65, 66, 89, 90, 91, 92, 93, 94, 95, 96, 97, 98, 99, 100, 101, 102, 103, 104, 105, 106, 107, 108, 109, 110] (by decide +kernel) (by decide +kernel)
set_option maxRecDepth 20000 in
theorem gX5_toll_X3_tollOf : GoodIn wsX5_toll (wsV RX5 143 RX3 yX3_tollOf wsX3_tollOf) := goodIn_app (goodIn_of _ (by decide +kernel)) ggX5_toll_X3_tollOf
set_option maxRecDepth 20000 in
theorem ggX5_toll_X2_meet : GoodIn wsX5_toll wsX2_meet := goodIn_r _ [84, 85, 27, 28, 29, 30, 31, 32, 33, 34, 35, 36, 37, 18, 38, 23, 24, 25, 39, 40, 41, 42, 43, 44, 45, 46, 47, 103, 104, 105, 106, 107, 108, 109, 110] (by decide +kernel) (by decide +kernel)
set_option maxRecDepth 20000 in
theorem gX5_toll_X2_meet : GoodIn wsX5_toll (wsV RX5 146 RX2 yX2_meet wsX2_meet) := goodIn_app (goodIn_of _ (by decide +kernel)) ggX5_toll_X2_meet
theorem dX5_toll_0 : decode cX5_toll 0 = .ok (.iload_n 2, 1) := by decide +kernel
theorem dX5_toll_1 : decode cX5_toll 1 = .ok (.iconst (-1), 1) := by decide +kernel
theorem dX5_toll_2 : decode cX5_toll 2 = .ok (.if_icmp .ne 7, 3) := by decide +kernel
theorem dX5_toll_5 : decode cX5_toll 5 = .ok (.iconst 1, 1) := by decide +kernel
theorem dX5_toll_6 : decode cX5_toll 6 = .ok (.goto 4, 3) := by decide +kernel
theorem dX5_toll_9 : decode cX5_toll 9 = .ok (.iconst 0, 1) := by decide +kernel
theorem dX5_toll_10 : decode cX5_toll 10 = .ok (.istore 4, 2) := by decide +kernel
theorem dX5_toll_12 : decode cX5_toll 12 = .ok (.iload_n 3, 1) := by decide +kernel
theorem dX5_toll_13 : decode cX5_toll 13 = .ok (.invokestatic 128, 3) := by decide +kernel
theorem dX5_toll_16 : decode cX5_toll 16 = .ok (.ifCond .eq 30, 3) := by decide +kernel
theorem dX5_toll_19 : decode cX5_toll 19 = .ok (.aload_n 0, 1) := by decide +kernel
theorem dX5_toll_20 : decode cX5_toll 20 = .ok (.getfield 28, 3) := by decide +kernel
theorem dX5_toll_23 : decode cX5_toll 23 = .ok (.iload_n 1, 1) := by decide +kernel
theorem dX5_toll_24 : decode cX5_toll 24 = .ok (.invokevirtual 137, 3) := by decide +kernel
theorem dX5_toll_27 : decode cX5_toll 27 = .ok (.ifCond .eq 19, 3) := by decide +kernel
theorem dX5_toll_30 : decode cX5_toll 30 = .ok (.iload 4, 2) := by decide +kernel
theorem dX5_toll_32 : decode cX5_toll 32 = .ok (.ifCond .ne 16, 3) := by decide +kernel
theorem dX5_toll_35 : decode cX5_toll 35 = .ok (.aload_n 0, 1) := by decide +kernel
theorem dX5_toll_36 : decode cX5_toll 36 = .ok (.getfield 28, 3) := by decide +kernel
theorem dX5_toll_39 : decode cX5_toll 39 = .ok (.iload_n 2, 1) := by decide +kernel
theorem dX5_toll_40 : decode cX5_toll 40 = .ok (.invokevirtual 137, 3) := by decide +kernel
theorem dX5_toll_43 : decode cX5_toll 43 = .ok (.ifCond .ne 5, 3) := by decide +kernel
theorem dX5_toll_46 : decode cX5_toll 46 = .ok (.iconst (-1), 1) := by decide +kernel
theorem dX5_toll_47 : decode cX5_toll 47 = .ok (.ireturn, 1) := by decide +kernel
theorem dX5_toll_48 : decode cX5_toll 48 = .ok (.iload 4, 2) := by decide +kernel
theorem dX5_toll_50 : decode cX5_toll 50 = .ok (.ifCond .eq 26, 3) := by decide +kernel
theorem dX5_toll_53 : decode cX5_toll 53 = .ok (.aload_n 0, 1) := by decide +kernel
theorem dX5_toll_54 : decode cX5_toll 54 = .ok (.getfield 28, 3) := by decide +kernel
theorem dX5_toll_57 : decode cX5_toll 57 = .ok (.aload_n 0, 1) := by decide +kernel
theorem dX5_toll_58 : decode cX5_toll 58 = .ok (.getfield 10, 3) := by decide +kernel
theorem dX5_toll_61 : decode cX5_toll 61 = .ok (.iload_n 1, 1) := by decide +kernel
theorem dX5_toll_62 : decode cX5_toll 62 = .ok (.iconst 0, 1) := by decide +kernel
theorem dX5_toll_63 : decode cX5_toll 63 = .ok (.invokevirtual 76, 3) := by decide +kernel
theorem dX5_toll_66 : decode cX5_toll 66 = .ok (.iload_n 3, 1) := by decide +kernel
theorem dX5_toll_67 : decode cX5_toll 67 = .ok (.iload_n 1, 1) := by decide +kernel
theorem dX5_toll_68 : decode cX5_toll 68 = .ok (.invokestatic 140, 3) := by decide +kernel
theorem dX5_toll_71 : decode cX5_toll 71 = .ok (.imul, 1) := by decide +kernel
theorem dX5_toll_72 : decode cX5_toll 72 = .ok (.invokevirtual 143, 3) := by decide +kernel
theorem dX5_toll_75 : decode cX5_toll 75 = .ok (.ireturn, 1) := by decide +kernel
theorem dX5_toll_76 : decode cX5_toll 76 = .ok (.aload_n 0, 1) := by decide +kernel
theorem dX5_toll_77 : decode cX5_toll 77 = .ok (.getfield 10, 3) := by decide +kernel
theorem dX5_toll_80 : decode cX5_toll 80 = .ok (.iload_n 1, 1) := by decide +kernel
theorem dX5_toll_81 : decode cX5_toll 81 = .ok (.iload_n 2, 1) := by decide +kernel
theorem dX5_toll_82 : decode cX5_toll 82 = .ok (.invokevirtual 146, 3) := by decide +kernel
theorem dX5_toll_85 : decode cX5_toll 85 = .ok (.ifCond .eq 6, 3) := by decide +kernel
theorem dX5_toll_88 : decode cX5_toll 88 = .ok (.bipush (-3), 2) := by decide +kernel
theorem dX5_toll_90 : decode cX5_toll 90 = .ok (.ireturn, 1) := by decide +kernel
theorem dX5_toll_91 : decode cX5_toll 91 = .ok (.aload_n 0, 1) := by decide +kernel
theorem dX5_toll_92 : decode cX5_toll 92 = .ok (.getfield 28, 3) := by decide +kernel
theorem dX5_toll_95 : decode cX5_toll 95 = .ok (.aload_n 0, 1) := by decide +kernel
theorem dX5_toll_96 : decode cX5_toll 96 = .ok (.getfield 10, 3) := by decide +kernel
theorem dX5_toll_99 : decode cX5_toll 99 = .ok (.iload_n 1, 1) := by decide +kernel
theorem dX5_toll_100 : decode cX5_toll 100 = .ok (.iconst 0, 1) := by decide +kernel
theorem dX5_toll_101 : decode cX5_toll 101 = .ok (.invokevirtual 76, 3) := by decide +kernel
theorem dX5_toll_104 : decode cX5_toll 104 = .ok (.aload_n 0, 1) := by decide +kernel
theorem dX5_toll_105 : decode cX5_toll 105 = .ok (.getfield 10, 3) := by decide +kernel
theorem dX5_toll_108 : decode cX5_toll 108 = .ok (.iload_n 2, 1) := by decide +kernel
theorem dX5_toll_109 : decode cX5_toll 109 = .ok (.iconst 0, 1) := by decide +kernel
theorem dX5_toll_110 : decode cX5_toll 110 = .ok (.invokevirtual 76, 3) := by decide +kernel
theorem dX5_toll_113 : decode cX5_toll 113 = .ok (.iadd, 1) := by decide +kernel
theorem dX5_toll_114 : decode cX5_toll 114 = .ok (.iload_n 3, 1) := by decide +kernel
theorem dX5_toll_115 : decode cX5_toll 115 = .ok (.iload_n 1, 1) := by decide +kernel
theorem dX5_toll_116 : decode cX5_toll 116 = .ok (.invokestatic 140, 3) := by decide +kernel
theorem dX5_toll_119 : decode cX5_toll 119 = .ok (.iload_n 2, 1) := by decide +kernel
theorem dX5_toll_120 : decode cX5_toll 120 = .ok (.invokestatic 140, 3) := by decide +kernel
theorem dX5_toll_123 : decode cX5_toll 123 = .ok (.iadd, 1) := by decide +kernel
theorem dX5_toll_124 : decode cX5_toll 124 = .ok (.imul, 1) := by decide +kernel
theorem dX5_toll_125 : decode cX5_toll 125 = .ok (.invokevirtual 143, 3) := by decide +kernel
theorem dX5_toll_128 : decode cX5_toll 128 = .ok (.ireturn, 1) := by decide +kernel
set_option maxRecDepth 20000 in
theorem ggX5_first_X1_has : GoodIn wsX5_first wsX1_has := goodIn_r _ [5, 6, 7, 8] (by decide +kernel) (by decide +kernel)
set_option maxRecDepth 20000 in
theorem gX5_first_X1_has : GoodIn wsX5_first (va_wsS RX5 68 yX1_has wsX1_has) := goodIn_app (goodIn_of _ (by decide +kernel)) ggX5_first_X1_has
set_option maxRecDepth 20000 in
theorem ggX5_first_X5_isIn : GoodIn wsX5_first wsX5_isIn := goodIn_r _ [8] (by decide +kernel) (by decide +kernel)
set_option maxRecDepth 20000 in
theorem gX5_first_X5_isIn : GoodIn wsX5_first (va_wsS RX5 32 yX5_isIn wsX5_isIn) := goodIn_app (goodIn_of _ (by decide +kernel)) ggX5_first_X5_isIn
set_option maxRecDepth 20000 in
theorem ggX5_first_X2_firstDay : GoodIn wsX5_first wsX2_firstDay := goodIn_r _ [14, 15, 16, 17, 18, 19, 20, 21, 13, 22, 23, 24, 25, 26, 27, 28, 4, 29, 30, 31, 32, 33, 34, 35, 36, 37, 38, 39, 40, 41, 45, 46, 47, 48, 49, 50, 51, 52] (by decide +kernel) (by decide +kernel)
set_option maxRecDepth 20000 in
theorem gX5_first_X2_firstDay : GoodIn wsX5_first (wsV RX5 149 RX2 yX2_firstDay wsX2_firstDay) := goodIn_app (goodIn_of _ (by decide +kernel)) ggX5_first_X2_firstDay
theorem dX5_first_0 : decode cX5_first 0 = .ok (.iload_n 1, 1) := by decide +kernel
theorem dX5_first_1 : decode cX5_first 1 = .ok (.invokestatic 68, 3) := by decide +kernel
theorem dX5_first_4 : decode cX5_first 4 = .ok (.ifCond .eq 26, 3) := by decide +kernel
theorem dX5_first_7 : decode cX5_first 7 = .ok (.iload_n 2, 1) := by decide +kernel
theorem dX5_first_8 : decode cX5_first 8 = .ok (.iconst 0, 1) := by decide +kernel
theorem dX5_first_9 : decode cX5_first 9 = .ok (.sipush 9999, 3) := by decide +kernel
theorem dX5_first_12 : decode cX5_first 12 = .ok (.invokestatic 32, 3) := by decide +kernel
theorem dX5_first_15 : decode cX5_first 15 = .ok (.ifCond .eq 15, 3) := by decide +kernel
theorem dX5_first_18 : decode cX5_first 18 = .ok (.aload_n 0, 1) := by decide +kernel
theorem dX5_first_19 : decode cX5_first 19 = .ok (.getfield 10, 3) := by decide +kernel
theorem dX5_first_22 : decode cX5_first 22 = .ok (.iload_n 1, 1) := by decide +kernel
theorem dX5_first_23 : decode cX5_first 23 = .ok (.iload_n 2, 1) := by decide +kernel
theorem dX5_first_24 : decode cX5_first 24 = .ok (.invokevirtual 149, 3) := by decide +kernel
theorem dX5_first_27 : decode cX5_first 27 = .ok (.goto 4, 3) := by decide +kernel
theorem dX5_first_30 : decode cX5_first 30 = .ok (.iconst (-1), 1) := by decide +kernel
theorem dX5_first_31 : decode cX5_first 31 = .ok (.ireturn, 1) := by decide +kernel
set_option maxRecDepth 20000 in
theorem ggX5_count_X2_size : GoodIn wsX5_count wsX2_size := goodIn_r _ [7, 8, 74, 75, 76, 77, 78, 79, 80, 81] (by decide +kernel) (by decide +kernel)
set_option maxRecDepth 20000 in
theorem gX5_count_X2_size : GoodIn wsX5_count (wsV RX5 152 RX2 yX2_size wsX2_size) := goodIn_app (goodIn_of _ (by decide +kernel)) ggX5_count_X2_size
set_option maxRecDepth 20000 in
theorem ggX5_count_X2_struckOnes : GoodIn wsX5_count wsX2_struckOnes := goodIn_r _ [12, 8, 13, 74, 75, 76, 77, 78, 79, 80, 81] (by decide +kernel) (by decide +kernel)
set_option maxRecDepth 20000 in
theorem gX5_count_X2_struckOnes : GoodIn wsX5_count (wsV RX5 156 RX2 yX2_struckOnes wsX2_struckOnes) := goodIn_app (goodIn_of _ (by decide +kernel)) ggX5_count_X2_struckOnes
set_option maxRecDepth 20000 in
theorem ggX5_count_X3_gather : GoodIn wsX5_count wsX3_gather := goodIn_r _ [18, 19, 20, 21, 22, 23, 24, 25, 26, 27, 28, 29, 30, 31, 32, 33, 34, 35, 6, 36, 8, 37, 38, 39, 40, 41, 42, 43, 44, 45, 46, 47, 48, 49, 50, 13, 51, 52, 53, 54, 55, 56, 57, 58, 59, 60, 61, 62, 63, 64, 65, 66, 67, 68, 69, 70, 82, 83, 84, 85, 86, 87, 88, 89, 90, 91, 92, 93, 94, 95, 74, 75, 76, 77, 78, 79, 80, 81] (by decide +kernel) (by decide +kernel)
set_option maxRecDepth 20000 in
theorem gX5_count_X3_gather : GoodIn wsX5_count (wsV RX5 159 RX3 yX3_gather wsX3_gather) := goodIn_app (goodIn_of _ (by decide +kernel)) ggX5_count_X3_gather
theorem dX5_count_0 : decode cX5_count 0 = .ok (.iload_n 1, 1) := by decide +kernel
theorem dX5_count_1 : decode cX5_count 1 = .ok (.tableswitch 51 0 2 #[27, 35, 43], 27) := by decide +kernel
theorem dX5_count_28 : decode cX5_count 28 = .ok (.aload_n 0, 1) := by decide +kernel
theorem dX5_count_29 : decode cX5_count 29 = .ok (.getfield 10, 3) := by decide +kernel
theorem dX5_count_32 : decode cX5_count 32 = .ok (.invokevirtual 152, 3) := by decide +kernel
theorem dX5_count_35 : decode cX5_count 35 = .ok (.ireturn, 1) := by decide +kernel
theorem dX5_count_36 : decode cX5_count 36 = .ok (.aload_n 0, 1) := by decide +kernel
theorem dX5_count_37 : decode cX5_count 37 = .ok (.getfield 10, 3) := by decide +kernel
theorem dX5_count_40 : decode cX5_count 40 = .ok (.invokevirtual 156, 3) := by decide +kernel
theorem dX5_count_43 : decode cX5_count 43 = .ok (.ireturn, 1) := by decide +kernel
theorem dX5_count_44 : decode cX5_count 44 = .ok (.aload_n 0, 1) := by decide +kernel
theorem dX5_count_45 : decode cX5_count 45 = .ok (.getfield 28, 3) := by decide +kernel
theorem dX5_count_48 : decode cX5_count 48 = .ok (.invokevirtual 159, 3) := by decide +kernel
theorem dX5_count_51 : decode cX5_count 51 = .ok (.ireturn, 1) := by decide +kernel
theorem dX5_count_52 : decode cX5_count 52 = .ok (.iconst (-1), 1) := by decide +kernel
theorem dX5_count_53 : decode cX5_count 53 = .ok (.ireturn, 1) := by decide +kernel
theorem dX5_isIn_0 : decode cX5_isIn 0 = .ok (.iload_n 0, 1) := by decide +kernel
theorem dX5_isIn_1 : decode cX5_isIn 1 = .ok (.iload_n 1, 1) := by decide +kernel
theorem dX5_isIn_2 : decode cX5_isIn 2 = .ok (.if_icmp .lt 12, 3) := by decide +kernel
theorem dX5_isIn_5 : decode cX5_isIn 5 = .ok (.iload_n 0, 1) := by decide +kernel
theorem dX5_isIn_6 : decode cX5_isIn 6 = .ok (.iload_n 2, 1) := by decide +kernel
theorem dX5_isIn_7 : decode cX5_isIn 7 = .ok (.if_icmp .gt 7, 3) := by decide +kernel
theorem dX5_isIn_10 : decode cX5_isIn 10 = .ok (.iconst 1, 1) := by decide +kernel
theorem dX5_isIn_11 : decode cX5_isIn 11 = .ok (.goto 4, 3) := by decide +kernel
theorem dX5_isIn_14 : decode cX5_isIn 14 = .ok (.iconst 0, 1) := by decide +kernel
theorem dX5_isIn_15 : decode cX5_isIn 15 = .ok (.ireturn, 1) := by decide +kernel
set_option maxRecDepth 20000 in
theorem ggX5_isTop_X5_isIn : GoodIn wsX5_isTop wsX5_isIn := goodIn_r _ [4] (by decide +kernel) (by decide +kernel)
set_option maxRecDepth 20000 in
theorem gX5_isTop_X5_isIn : GoodIn wsX5_isTop (va_wsS RX5 32 yX5_isIn wsX5_isIn) := goodIn_app (goodIn_of _ (by decide +kernel)) ggX5_isTop_X5_isIn
theorem dX5_isTop_0 : decode cX5_isTop 0 = .ok (.iload_n 0, 1) := by decide +kernel
theorem dX5_isTop_1 : decode cX5_isTop 1 = .ok (.bipush (-99), 2) := by decide +kernel
theorem dX5_isTop_3 : decode cX5_isTop 3 = .ok (.bipush 99, 2) := by decide +kernel
theorem dX5_isTop_5 : decode cX5_isTop 5 = .ok (.invokestatic 32, 3) := by decide +kernel
theorem dX5_isTop_8 : decode cX5_isTop 8 = .ok (.ireturn, 1) := by decide +kernel
set_option maxRecDepth 20000 in
theorem ggX5_isBase_X5_isIn : GoodIn wsX5_isBase wsX5_isIn := goodIn_r _ [4] (by decide +kernel) (by decide +kernel)
set_option maxRecDepth 20000 in
theorem gX5_isBase_X5_isIn : GoodIn wsX5_isBase (va_wsS RX5 32 yX5_isIn wsX5_isIn) := goodIn_app (goodIn_of _ (by decide +kernel)) ggX5_isBase_X5_isIn
theorem dX5_isBase_0 : decode cX5_isBase 0 = .ok (.iload_n 0, 1) := by decide +kernel
theorem dX5_isBase_1 : decode cX5_isBase 1 = .ok (.iconst 0, 1) := by decide +kernel
theorem dX5_isBase_2 : decode cX5_isBase 2 = .ok (.bipush 9, 2) := by decide +kernel
theorem dX5_isBase_4 : decode cX5_isBase 4 = .ok (.invokestatic 32, 3) := by decide +kernel
theorem dX5_isBase_7 : decode cX5_isBase 7 = .ok (.ireturn, 1) := by decide +kernel
set_option maxRecDepth 20000 in
theorem ggX5_isMember_X5_isIn : GoodIn wsX5_isMember wsX5_isIn := goodIn_r _ [4] (by decide +kernel) (by decide +kernel)
set_option maxRecDepth 20000 in
theorem gX5_isMember_X5_isIn : GoodIn wsX5_isMember (va_wsS RX5 32 yX5_isIn wsX5_isIn) := goodIn_app (goodIn_of _ (by decide +kernel)) ggX5_isMember_X5_isIn
theorem dX5_isMember_0 : decode cX5_isMember 0 = .ok (.iload_n 0, 1) := by decide +kernel
theorem dX5_isMember_1 : decode cX5_isMember 1 = .ok (.iconst 0, 1) := by decide +kernel
theorem dX5_isMember_2 : decode cX5_isMember 2 = .ok (.bipush 63, 2) := by decide +kernel
theorem dX5_isMember_4 : decode cX5_isMember 4 = .ok (.invokestatic 32, 3) := by decide +kernel
theorem dX5_isMember_7 : decode cX5_isMember 7 = .ok (.ireturn, 1) := by decide +kernel
set_option maxRecDepth 20000 in
theorem ggX5_isCost_X5_isIn : GoodIn wsX5_isCost wsX5_isIn := goodIn_r _ [4] (by decide +kernel) (by decide +kernel)
set_option maxRecDepth 20000 in
theorem gX5_isCost_X5_isIn : GoodIn wsX5_isCost (va_wsS RX5 32 yX5_isIn wsX5_isIn) := goodIn_app (goodIn_of _ (by decide +kernel)) ggX5_isCost_X5_isIn
theorem dX5_isCost_0 : decode cX5_isCost 0 = .ok (.iload_n 0, 1) := by decide +kernel
theorem dX5_isCost_1 : decode cX5_isCost 1 = .ok (.iconst 0, 1) := by decide +kernel
theorem dX5_isCost_2 : decode cX5_isCost 2 = .ok (.sipush 1000, 3) := by decide +kernel
theorem dX5_isCost_5 : decode cX5_isCost 5 = .ok (.invokestatic 32, 3) := by decide +kernel
theorem dX5_isCost_8 : decode cX5_isCost 8 = .ok (.ireturn, 1) := by decide +kernel
theorem dX6_init_0 : decode cX6_init 0 = .ok (.aload_n 0, 1) := by decide +kernel
theorem dX6_init_1 : decode cX6_init 1 = .ok (.invokespecial 1, 3) := by decide +kernel
theorem dX6_init_4 : decode cX6_init 4 = .ok (.aload_n 0, 1) := by decide +kernel
theorem dX6_init_5 : decode cX6_init 5 = .ok (.bipush 120, 2) := by decide +kernel
theorem dX6_init_7 : decode cX6_init 7 = .ok (.newarray .int, 2) := by decide +kernel
theorem dX6_init_9 : decode cX6_init 9 = .ok (.putfield 7, 3) := by decide +kernel
theorem dX6_init_12 : decode cX6_init 12 = .ok (.aload_n 0, 1) := by decide +kernel
theorem dX6_init_13 : decode cX6_init 13 = .ok (.bipush 120, 2) := by decide +kernel
theorem dX6_init_15 : decode cX6_init 15 = .ok (.newarray .int, 2) := by decide +kernel
theorem dX6_init_17 : decode cX6_init 17 = .ok (.putfield 13, 3) := by decide +kernel
theorem dX6_init_20 : decode cX6_init 20 = .ok (.aload_n 0, 1) := by decide +kernel
theorem dX6_init_21 : decode cX6_init 21 = .ok (.bipush 120, 2) := by decide +kernel
theorem dX6_init_23 : decode cX6_init 23 = .ok (.newarray .int, 2) := by decide +kernel
theorem dX6_init_25 : decode cX6_init 25 = .ok (.putfield 16, 3) := by decide +kernel
theorem dX6_init_28 : decode cX6_init 28 = .ok (.aload_n 0, 1) := by decide +kernel
theorem dX6_init_29 : decode cX6_init 29 = .ok (.bipush 120, 2) := by decide +kernel
theorem dX6_init_31 : decode cX6_init 31 = .ok (.newarray .int, 2) := by decide +kernel
theorem dX6_init_33 : decode cX6_init 33 = .ok (.putfield 19, 3) := by decide +kernel
theorem dX6_init_36 : decode cX6_init 36 = .ok (.aload_n 0, 1) := by decide +kernel
theorem dX6_init_37 : decode cX6_init 37 = .ok (.bipush 120, 2) := by decide +kernel
theorem dX6_init_39 : decode cX6_init 39 = .ok (.newarray .int, 2) := by decide +kernel
theorem dX6_init_41 : decode cX6_init 41 = .ok (.putfield 22, 3) := by decide +kernel
theorem dX6_init_44 : decode cX6_init 44 = .ok (.aload_n 0, 1) := by decide +kernel
theorem dX6_init_45 : decode cX6_init 45 = .ok (.sipush 360, 3) := by decide +kernel
theorem dX6_init_48 : decode cX6_init 48 = .ok (.newarray .int, 2) := by decide +kernel
theorem dX6_init_50 : decode cX6_init 50 = .ok (.putfield 25, 3) := by decide +kernel
theorem dX6_init_53 : decode cX6_init 53 = .ok (.aload_n 0, 1) := by decide +kernel
theorem dX6_init_54 : decode cX6_init 54 = .ok (.bipush 120, 2) := by decide +kernel
theorem dX6_init_56 : decode cX6_init 56 = .ok (.newarray .boolean, 2) := by decide +kernel
theorem dX6_init_58 : decode cX6_init 58 = .ok (.putfield 28, 3) := by decide +kernel
theorem dX6_init_61 : decode cX6_init 61 = .ok (.aload_n 0, 1) := by decide +kernel
theorem dX6_init_62 : decode cX6_init 62 = .ok (.iconst 5, 1) := by decide +kernel
theorem dX6_init_63 : decode cX6_init 63 = .ok (.newarray .int, 2) := by decide +kernel
theorem dX6_init_65 : decode cX6_init 65 = .ok (.putfield 32, 3) := by decide +kernel
theorem dX6_init_68 : decode cX6_init 68 = .ok (.aload_n 0, 1) := by decide +kernel
theorem dX6_init_69 : decode cX6_init 69 = .ok (.iconst 5, 1) := by decide +kernel
theorem dX6_init_70 : decode cX6_init 70 = .ok (.newarray .int, 2) := by decide +kernel
theorem dX6_init_72 : decode cX6_init 72 = .ok (.putfield 35, 3) := by decide +kernel
theorem dX6_init_75 : decode cX6_init 75 = .ok (.aload_n 0, 1) := by decide +kernel
theorem dX6_init_76 : decode cX6_init 76 = .ok (.iconst (-1), 1) := by decide +kernel
theorem dX6_init_77 : decode cX6_init 77 = .ok (.putfield 38, 3) := by decide +kernel
theorem dX6_init_80 : decode cX6_init 80 = .ok (.aload_n 0, 1) := by decide +kernel
theorem dX6_init_81 : decode cX6_init 81 = .ok (.bipush 8, 2) := by decide +kernel
theorem dX6_init_83 : decode cX6_init 83 = .ok (.newarray .int, 2) := by decide +kernel
theorem dX6_init_85 : decode cX6_init 85 = .ok (.putfield 42, 3) := by decide +kernel
theorem dX6_init_88 : decode cX6_init 88 = .ok (.aload_n 0, 1) := by decide +kernel
theorem dX6_init_89 : decode cX6_init 89 = .ok (.bipush 8, 2) := by decide +kernel
theorem dX6_init_91 : decode cX6_init 91 = .ok (.newarray .int, 2) := by decide +kernel
theorem dX6_init_93 : decode cX6_init 93 = .ok (.putfield 45, 3) := by decide +kernel
theorem dX6_init_96 : decode cX6_init 96 = .ok (.aload_n 0, 1) := by decide +kernel
theorem dX6_init_97 : decode cX6_init 97 = .ok (.sipush 216, 3) := by decide +kernel
theorem dX6_init_100 : decode cX6_init 100 = .ok (.newarray .int, 2) := by decide +kernel
theorem dX6_init_102 : decode cX6_init 102 = .ok (.putfield 48, 3) := by decide +kernel
theorem dX6_init_105 : decode cX6_init 105 = .ok (.aload_n 0, 1) := by decide +kernel
theorem dX6_init_106 : decode cX6_init 106 = .ok (.sipush 216, 3) := by decide +kernel
theorem dX6_init_109 : decode cX6_init 109 = .ok (.newarray .int, 2) := by decide +kernel
theorem dX6_init_111 : decode cX6_init 111 = .ok (.putfield 51, 3) := by decide +kernel
theorem dX6_init_114 : decode cX6_init 114 = .ok (.return_, 1) := by decide +kernel
theorem dX6_in_0 : decode cX6_in 0 = .ok (.iload_n 0, 1) := by decide +kernel
theorem dX6_in_1 : decode cX6_in 1 = .ok (.iload_n 1, 1) := by decide +kernel
theorem dX6_in_2 : decode cX6_in 2 = .ok (.if_icmp .lt 12, 3) := by decide +kernel
theorem dX6_in_5 : decode cX6_in 5 = .ok (.iload_n 0, 1) := by decide +kernel
theorem dX6_in_6 : decode cX6_in 6 = .ok (.iload_n 2, 1) := by decide +kernel
theorem dX6_in_7 : decode cX6_in 7 = .ok (.if_icmp .gt 7, 3) := by decide +kernel
theorem dX6_in_10 : decode cX6_in 10 = .ok (.iconst 1, 1) := by decide +kernel
theorem dX6_in_11 : decode cX6_in 11 = .ok (.goto 4, 3) := by decide +kernel
theorem dX6_in_14 : decode cX6_in 14 = .ok (.iconst 0, 1) := by decide +kernel
theorem dX6_in_15 : decode cX6_in 15 = .ok (.ireturn, 1) := by decide +kernel
set_option maxRecDepth 20000 in
theorem ggX6_isRow_X6_in : GoodIn wsX6_isRow wsX6_in := goodIn_r _ [5] (by decide +kernel) (by decide +kernel)
set_option maxRecDepth 20000 in
theorem gX6_isRow_X6_in : GoodIn wsX6_isRow (va_wsS RX6 57 yX6_in wsX6_in) := goodIn_app (goodIn_of _ (by decide +kernel)) ggX6_isRow_X6_in
theorem dX6_isRow_0 : decode cX6_isRow 0 = .ok (.iload_n 1, 1) := by decide +kernel
theorem dX6_isRow_1 : decode cX6_isRow 1 = .ok (.iconst 0, 1) := by decide +kernel
theorem dX6_isRow_2 : decode cX6_isRow 2 = .ok (.aload_n 0, 1) := by decide +kernel
theorem dX6_isRow_3 : decode cX6_isRow 3 = .ok (.getfield 54, 3) := by decide +kernel
theorem dX6_isRow_6 : decode cX6_isRow 6 = .ok (.iconst 1, 1) := by decide +kernel
theorem dX6_isRow_7 : decode cX6_isRow 7 = .ok (.isub, 1) := by decide +kernel
theorem dX6_isRow_8 : decode cX6_isRow 8 = .ok (.invokestatic 57, 3) := by decide +kernel
theorem dX6_isRow_11 : decode cX6_isRow 11 = .ok (.ireturn, 1) := by decide +kernel
set_option maxRecDepth 20000 in
theorem ggX6_isHeap_X6_in : GoodIn wsX6_isHeap wsX6_in := goodIn_r _ [4] (by decide +kernel) (by decide +kernel)
set_option maxRecDepth 20000 in
theorem gX6_isHeap_X6_in : GoodIn wsX6_isHeap (va_wsS RX6 57 yX6_in wsX6_in) := goodIn_app (goodIn_of _ (by decide +kernel)) ggX6_isHeap_X6_in
theorem dX6_isHeap_0 : decode cX6_isHeap 0 = .ok (.iload_n 0, 1) := by decide +kernel
theorem dX6_isHeap_1 : decode cX6_isHeap 1 = .ok (.iconst 0, 1) := by decide +kernel
theorem dX6_isHeap_2 : decode cX6_isHeap 2 = .ok (.sipush 728, 3) := by decide +kernel
theorem dX6_isHeap_5 : decode cX6_isHeap 5 = .ok (.invokestatic 57, 3) := by decide +kernel
theorem dX6_isHeap_8 : decode cX6_isHeap 8 = .ok (.ireturn, 1) := by decide +kernel
set_option maxRecDepth 20000 in
theorem ggX6_isMark_X6_in : GoodIn wsX6_isMark wsX6_in := goodIn_r _ [4] (by decide +kernel) (by decide +kernel)
set_option maxRecDepth 20000 in
theorem gX6_isMark_X6_in : GoodIn wsX6_isMark (va_wsS RX6 57 yX6_in wsX6_in) := goodIn_app (goodIn_of _ (by decide +kernel)) ggX6_isMark_X6_in
theorem dX6_isMark_0 : decode cX6_isMark 0 = .ok (.iload_n 0, 1) := by decide +kernel
theorem dX6_isMark_1 : decode cX6_isMark 1 = .ok (.iconst 0, 1) := by decide +kernel
theorem dX6_isMark_2 : decode cX6_isMark 2 = .ok (.iconst 2, 1) := by decide +kernel
theorem dX6_isMark_3 : decode cX6_isMark 3 = .ok (.invokestatic 57, 3) := by decide +kernel
theorem dX6_isMark_6 : decode cX6_isMark 6 = .ok (.ireturn, 1) := by decide +kernel
theorem dX6_digit_0 : decode cX6_digit 0 = .ok (.iload_n 1, 1) := by decide +kernel
theorem dX6_digit_1 : decode cX6_digit 1 = .ok (.ifCond .ne 10, 3) := by decide +kernel
theorem dX6_digit_4 : decode cX6_digit 4 = .ok (.iload_n 0, 1) := by decide +kernel
theorem dX6_digit_5 : decode cX6_digit 5 = .ok (.bipush 9, 2) := by decide +kernel
theorem dX6_digit_7 : decode cX6_digit 7 = .ok (.irem, 1) := by decide +kernel
theorem dX6_digit_8 : decode cX6_digit 8 = .ok (.goto 22, 3) := by decide +kernel
theorem dX6_digit_11 : decode cX6_digit 11 = .ok (.iload_n 1, 1) := by decide +kernel
theorem dX6_digit_12 : decode cX6_digit 12 = .ok (.iconst 1, 1) := by decide +kernel
theorem dX6_digit_13 : decode cX6_digit 13 = .ok (.if_icmp .ne 13, 3) := by decide +kernel
theorem dX6_digit_16 : decode cX6_digit 16 = .ok (.iload_n 0, 1) := by decide +kernel
theorem dX6_digit_17 : decode cX6_digit 17 = .ok (.bipush 9, 2) := by decide +kernel
theorem dX6_digit_19 : decode cX6_digit 19 = .ok (.idiv, 1) := by decide +kernel
theorem dX6_digit_20 : decode cX6_digit 20 = .ok (.bipush 9, 2) := by decide +kernel
theorem dX6_digit_22 : decode cX6_digit 22 = .ok (.irem, 1) := by decide +kernel
theorem dX6_digit_23 : decode cX6_digit 23 = .ok (.goto 7, 3) := by decide +kernel
theorem dX6_digit_26 : decode cX6_digit 26 = .ok (.iload_n 0, 1) := by decide +kernel
theorem dX6_digit_27 : decode cX6_digit 27 = .ok (.bipush 81, 2) := by decide +kernel
theorem dX6_digit_29 : decode cX6_digit 29 = .ok (.idiv, 1) := by decide +kernel
theorem dX6_digit_30 : decode cX6_digit 30 = .ok (.ireturn, 1) := by decide +kernel
theorem dX6_place_0 : decode cX6_place 0 = .ok (.iload_n 0, 1) := by decide +kernel
theorem dX6_place_1 : decode cX6_place 1 = .ok (.ifCond .ne 7, 3) := by decide +kernel
theorem dX6_place_4 : decode cX6_place 4 = .ok (.iconst 1, 1) := by decide +kernel
theorem dX6_place_5 : decode cX6_place 5 = .ok (.goto 15, 3) := by decide +kernel
theorem dX6_place_8 : decode cX6_place 8 = .ok (.iload_n 0, 1) := by decide +kernel
theorem dX6_place_9 : decode cX6_place 9 = .ok (.iconst 1, 1) := by decide +kernel
theorem dX6_place_10 : decode cX6_place 10 = .ok (.if_icmp .ne 8, 3) := by decide +kernel
theorem dX6_place_13 : decode cX6_place 13 = .ok (.bipush 9, 2) := by decide +kernel
theorem dX6_place_15 : decode cX6_place 15 = .ok (.goto 5, 3) := by decide +kernel
theorem dX6_place_18 : decode cX6_place 18 = .ok (.bipush 81, 2) := by decide +kernel
theorem dX6_place_20 : decode cX6_place 20 = .ok (.ireturn, 1) := by decide +kernel
set_option maxRecDepth 20000 in
theorem ggX6_tests_X6_digit : GoodIn wsX6_tests wsX6_digit := goodIn_r _ [4] (by decide +kernel) (by decide +kernel)
set_option maxRecDepth 20000 in
theorem gX6_tests_X6_digit : GoodIn wsX6_tests (va_wsS RX6 61 yX6_digit wsX6_digit) := goodIn_app (goodIn_of _ (by decide +kernel)) ggX6_tests_X6_digit
theorem dX6_tests_0 : decode cX6_tests 0 = .ok (.iconst 0, 1) := by decide +kernel
theorem dX6_tests_1 : decode cX6_tests 1 = .ok (.istore_n 1, 1) := by decide +kernel
theorem dX6_tests_2 : decode cX6_tests 2 = .ok (.iconst 0, 1) := by decide +kernel
theorem dX6_tests_3 : decode cX6_tests 3 = .ok (.istore_n 2, 1) := by decide +kernel
theorem dX6_tests_4 : decode cX6_tests 4 = .ok (.iload_n 2, 1) := by decide +kernel
theorem dX6_tests_5 : decode cX6_tests 5 = .ok (.iconst 3, 1) := by decide +kernel
theorem dX6_tests_6 : decode cX6_tests 6 = .ok (.if_icmp .ge 25, 3) := by decide +kernel
theorem dX6_tests_9 : decode cX6_tests 9 = .ok (.iload_n 1, 1) := by decide +kernel
theorem dX6_tests_10 : decode cX6_tests 10 = .ok (.iload_n 0, 1) := by decide +kernel
theorem dX6_tests_11 : decode cX6_tests 11 = .ok (.iload_n 2, 1) := by decide +kernel
theorem dX6_tests_12 : decode cX6_tests 12 = .ok (.invokestatic 61, 3) := by decide +kernel
theorem dX6_tests_15 : decode cX6_tests 15 = .ok (.ifCond .le 7, 3) := by decide +kernel
theorem dX6_tests_18 : decode cX6_tests 18 = .ok (.iconst 1, 1) := by decide +kernel
theorem dX6_tests_19 : decode cX6_tests 19 = .ok (.goto 4, 3) := by decide +kernel
theorem dX6_tests_22 : decode cX6_tests 22 = .ok (.iconst 0, 1) := by decide +kernel
theorem dX6_tests_23 : decode cX6_tests 23 = .ok (.iadd, 1) := by decide +kernel
theorem dX6_tests_24 : decode cX6_tests 24 = .ok (.istore_n 1, 1) := by decide +kernel
theorem dX6_tests_25 : decode cX6_tests 25 = .ok (.iinc 2 1, 3) := by decide +kernel
theorem dX6_tests_28 : decode cX6_tests 28 = .ok (.goto (-24), 3) := by decide +kernel
theorem dX6_tests_31 : decode cX6_tests 31 = .ok (.iload_n 1, 1) := by decide +kernel
theorem dX6_tests_32 : decode cX6_tests 32 = .ok (.ireturn, 1) := by decide +kernel
set_option maxRecDepth 20000 in
theorem ggX6_row_X6_in : GoodIn wsX6_row wsX6_in := goodIn_r _ [11] (by decide +kernel) (by decide +kernel)
set_option maxRecDepth 20000 in
theorem gX6_row_X6_in : GoodIn wsX6_row (va_wsS RX6 57 yX6_in wsX6_in) := goodIn_app (goodIn_of _ (by decide +kernel)) ggX6_row_X6_in
theorem dX6_row_0 : decode cX6_row 0 = .ok (.iload_n 1, 1) := by decide +kernel
theorem dX6_row_1 : decode cX6_row 1 = .ok (.ifCond .lt 76, 3) := by decide +kernel
theorem dX6_row_4 : decode cX6_row 4 = .ok (.iload_n 1, 1) := by decide +kernel
theorem dX6_row_5 : decode cX6_row 5 = .ok (.bipush 100, 2) := by decide +kernel
theorem dX6_row_7 : decode cX6_row 7 = .ok (.idiv, 1) := by decide +kernel
theorem dX6_row_8 : decode cX6_row 8 = .ok (.iconst 0, 1) := by decide +kernel
theorem dX6_row_9 : decode cX6_row 9 = .ok (.iconst 1, 1) := by decide +kernel
theorem dX6_row_10 : decode cX6_row 10 = .ok (.invokestatic 57, 3) := by decide +kernel
theorem dX6_row_13 : decode cX6_row 13 = .ok (.ifCond .eq 64, 3) := by decide +kernel
theorem dX6_row_16 : decode cX6_row 16 = .ok (.iload_n 1, 1) := by decide +kernel
theorem dX6_row_17 : decode cX6_row 17 = .ok (.bipush 100, 2) := by decide +kernel
theorem dX6_row_19 : decode cX6_row 19 = .ok (.irem, 1) := by decide +kernel
theorem dX6_row_20 : decode cX6_row 20 = .ok (.iconst 0, 1) := by decide +kernel
theorem dX6_row_21 : decode cX6_row 21 = .ok (.bipush 30, 2) := by decide +kernel
theorem dX6_row_23 : decode cX6_row 23 = .ok (.invokestatic 57, 3) := by decide +kernel
theorem dX6_row_26 : decode cX6_row 26 = .ok (.ifCond .eq 51, 3) := by decide +kernel
theorem dX6_row_29 : decode cX6_row 29 = .ok (.iload_n 2, 1) := by decide +kernel
theorem dX6_row_30 : decode cX6_row 30 = .ok (.bipush (-99), 2) := by decide +kernel
theorem dX6_row_32 : decode cX6_row 32 = .ok (.bipush 99, 2) := by decide +kernel
theorem dX6_row_34 : decode cX6_row 34 = .ok (.invokestatic 57, 3) := by decide +kernel
theorem dX6_row_37 : decode cX6_row 37 = .ok (.ifCond .eq 40, 3) := by decide +kernel
theorem dX6_row_40 : decode cX6_row 40 = .ok (.iload_n 3, 1) := by decide +kernel
theorem dX6_row_41 : decode cX6_row 41 = .ok (.iconst 0, 1) := by decide +kernel
theorem dX6_row_42 : decode cX6_row 42 = .ok (.bipush 9, 2) := by decide +kernel
theorem dX6_row_44 : decode cX6_row 44 = .ok (.invokestatic 57, 3) := by decide +kernel
theorem dX6_row_47 : decode cX6_row 47 = .ok (.ifCond .eq 30, 3) := by decide +kernel
theorem dX6_row_50 : decode cX6_row 50 = .ok (.iload 4, 2) := by decide +kernel
theorem dX6_row_52 : decode cX6_row 52 = .ok (.iconst 0, 1) := by decide +kernel
theorem dX6_row_53 : decode cX6_row 53 = .ok (.bipush 63, 2) := by decide +kernel
theorem dX6_row_55 : decode cX6_row 55 = .ok (.invokestatic 57, 3) := by decide +kernel
theorem dX6_row_58 : decode cX6_row 58 = .ok (.ifCond .eq 19, 3) := by decide +kernel
theorem dX6_row_61 : decode cX6_row 61 = .ok (.iload 5, 2) := by decide +kernel
theorem dX6_row_63 : decode cX6_row 63 = .ok (.iconst 0, 1) := by decide +kernel
theorem dX6_row_64 : decode cX6_row 64 = .ok (.sipush 511, 3) := by decide +kernel
theorem dX6_row_67 : decode cX6_row 67 = .ok (.invokestatic 57, 3) := by decide +kernel
theorem dX6_row_70 : decode cX6_row 70 = .ok (.ifCond .eq 7, 3) := by decide +kernel
theorem dX6_row_73 : decode cX6_row 73 = .ok (.iconst 1, 1) := by decide +kernel
theorem dX6_row_74 : decode cX6_row 74 = .ok (.goto 4, 3) := by decide +kernel
theorem dX6_row_77 : decode cX6_row 77 = .ok (.iconst 0, 1) := by decide +kernel
theorem dX6_row_78 : decode cX6_row 78 = .ok (.istore 6, 2) := by decide +kernel
theorem dX6_row_80 : decode cX6_row 80 = .ok (.iload 6, 2) := by decide +kernel
theorem dX6_row_82 : decode cX6_row 82 = .ok (.ifCond .ne 5, 3) := by decide +kernel
theorem dX6_row_85 : decode cX6_row 85 = .ok (.iconst (-1), 1) := by decide +kernel
theorem dX6_row_86 : decode cX6_row 86 = .ok (.ireturn, 1) := by decide +kernel
theorem dX6_row_87 : decode cX6_row 87 = .ok (.aload_n 0, 1) := by decide +kernel
theorem dX6_row_88 : decode cX6_row 88 = .ok (.getfield 54, 3) := by decide +kernel
theorem dX6_row_91 : decode cX6_row 91 = .ok (.bipush 120, 2) := by decide +kernel
theorem dX6_row_93 : decode cX6_row 93 = .ok (.if_icmp .ne 6, 3) := by decide +kernel
theorem dX6_row_96 : decode cX6_row 96 = .ok (.bipush (-2), 2) := by decide +kernel
theorem dX6_row_98 : decode cX6_row 98 = .ok (.ireturn, 1) := by decide +kernel
theorem dX6_row_99 : decode cX6_row 99 = .ok (.aload_n 0, 1) := by decide +kernel
theorem dX6_row_100 : decode cX6_row 100 = .ok (.getfield 7, 3) := by decide +kernel
theorem dX6_row_103 : decode cX6_row 103 = .ok (.aload_n 0, 1) := by decide +kernel
theorem dX6_row_104 : decode cX6_row 104 = .ok (.getfield 54, 3) := by decide +kernel
theorem dX6_row_107 : decode cX6_row 107 = .ok (.iload_n 1, 1) := by decide +kernel
theorem dX6_row_108 : decode cX6_row 108 = .ok (.bipush 100, 2) := by decide +kernel
theorem dX6_row_110 : decode cX6_row 110 = .ok (.idiv, 1) := by decide +kernel
theorem dX6_row_111 : decode cX6_row 111 = .ok (.iastore, 1) := by decide +kernel
theorem dX6_row_112 : decode cX6_row 112 = .ok (.aload_n 0, 1) := by decide +kernel
theorem dX6_row_113 : decode cX6_row 113 = .ok (.getfield 13, 3) := by decide +kernel
theorem dX6_row_116 : decode cX6_row 116 = .ok (.aload_n 0, 1) := by decide +kernel
theorem dX6_row_117 : decode cX6_row 117 = .ok (.getfield 54, 3) := by decide +kernel
theorem dX6_row_120 : decode cX6_row 120 = .ok (.iload_n 1, 1) := by decide +kernel
theorem dX6_row_121 : decode cX6_row 121 = .ok (.bipush 100, 2) := by decide +kernel
theorem dX6_row_123 : decode cX6_row 123 = .ok (.irem, 1) := by decide +kernel
theorem dX6_row_124 : decode cX6_row 124 = .ok (.iastore, 1) := by decide +kernel
theorem dX6_row_125 : decode cX6_row 125 = .ok (.aload_n 0, 1) := by decide +kernel
theorem dX6_row_126 : decode cX6_row 126 = .ok (.getfield 16, 3) := by decide +kernel
theorem dX6_row_129 : decode cX6_row 129 = .ok (.aload_n 0, 1) := by decide +kernel
theorem dX6_row_130 : decode cX6_row 130 = .ok (.getfield 54, 3) := by decide +kernel
theorem dX6_row_133 : decode cX6_row 133 = .ok (.iload_n 2, 1) := by decide +kernel
theorem dX6_row_134 : decode cX6_row 134 = .ok (.iastore, 1) := by decide +kernel
theorem dX6_row_135 : decode cX6_row 135 = .ok (.aload_n 0, 1) := by decide +kernel
theorem dX6_row_136 : decode cX6_row 136 = .ok (.getfield 19, 3) := by decide +kernel
theorem dX6_row_139 : decode cX6_row 139 = .ok (.aload_n 0, 1) := by decide +kernel
theorem dX6_row_140 : decode cX6_row 140 = .ok (.getfield 54, 3) := by decide +kernel
theorem dX6_row_143 : decode cX6_row 143 = .ok (.iload_n 3, 1) := by decide +kernel
theorem dX6_row_144 : decode cX6_row 144 = .ok (.iastore, 1) := by decide +kernel
theorem dX6_row_145 : decode cX6_row 145 = .ok (.aload_n 0, 1) := by decide +kernel
theorem dX6_row_146 : decode cX6_row 146 = .ok (.getfield 22, 3) := by decide +kernel
theorem dX6_row_149 : decode cX6_row 149 = .ok (.aload_n 0, 1) := by decide +kernel
theorem dX6_row_150 : decode cX6_row 150 = .ok (.getfield 54, 3) := by decide +kernel
theorem dX6_row_153 : decode cX6_row 153 = .ok (.iload 4, 2) := by decide +kernel
theorem dX6_row_155 : decode cX6_row 155 = .ok (.iastore, 1) := by decide +kernel
theorem dX6_row_156 : decode cX6_row 156 = .ok (.iconst 0, 1) := by decide +kernel
theorem dX6_row_157 : decode cX6_row 157 = .ok (.istore 7, 2) := by decide +kernel
theorem dX6_row_159 : decode cX6_row 159 = .ok (.iload 7, 2) := by decide +kernel
theorem dX6_row_161 : decode cX6_row 161 = .ok (.iconst 3, 1) := by decide +kernel
theorem dX6_row_162 : decode cX6_row 162 = .ok (.if_icmp .ge 33, 3) := by decide +kernel
theorem dX6_row_165 : decode cX6_row 165 = .ok (.aload_n 0, 1) := by decide +kernel
theorem dX6_row_166 : decode cX6_row 166 = .ok (.getfield 25, 3) := by decide +kernel
theorem dX6_row_169 : decode cX6_row 169 = .ok (.iconst 3, 1) := by decide +kernel
theorem dX6_row_170 : decode cX6_row 170 = .ok (.aload_n 0, 1) := by decide +kernel
theorem dX6_row_171 : decode cX6_row 171 = .ok (.getfield 54, 3) := by decide +kernel
theorem dX6_row_174 : decode cX6_row 174 = .ok (.imul, 1) := by decide +kernel
theorem dX6_row_175 : decode cX6_row 175 = .ok (.iload 7, 2) := by decide +kernel
theorem dX6_row_177 : decode cX6_row 177 = .ok (.iadd, 1) := by decide +kernel
theorem dX6_row_178 : decode cX6_row 178 = .ok (.iload 5, 2) := by decide +kernel
theorem dX6_row_180 : decode cX6_row 180 = .ok (.iconst 3, 1) := by decide +kernel
theorem dX6_row_181 : decode cX6_row 181 = .ok (.iload 7, 2) := by decide +kernel
theorem dX6_row_183 : decode cX6_row 183 = .ok (.imul, 1) := by decide +kernel
theorem dX6_row_184 : decode cX6_row 184 = .ok (.ishr, 1) := by decide +kernel
theorem dX6_row_185 : decode cX6_row 185 = .ok (.bipush 7, 2) := by decide +kernel
theorem dX6_row_187 : decode cX6_row 187 = .ok (.iand, 1) := by decide +kernel
theorem dX6_row_188 : decode cX6_row 188 = .ok (.iastore, 1) := by decide +kernel
theorem dX6_row_189 : decode cX6_row 189 = .ok (.iinc 7 1, 3) := by decide +kernel
theorem dX6_row_192 : decode cX6_row 192 = .ok (.goto (-33), 3) := by decide +kernel
theorem dX6_row_195 : decode cX6_row 195 = .ok (.aload_n 0, 1) := by decide +kernel
theorem dX6_row_196 : decode cX6_row 196 = .ok (.dup, 1) := by decide +kernel
theorem dX6_row_197 : decode cX6_row 197 = .ok (.getfield 54, 3) := by decide +kernel
theorem dX6_row_200 : decode cX6_row 200 = .ok (.iconst 1, 1) := by decide +kernel
theorem dX6_row_201 : decode cX6_row 201 = .ok (.iadd, 1) := by decide +kernel
theorem dX6_row_202 : decode cX6_row 202 = .ok (.putfield 54, 3) := by decide +kernel
theorem dX6_row_205 : decode cX6_row 205 = .ok (.aload_n 0, 1) := by decide +kernel
theorem dX6_row_206 : decode cX6_row 206 = .ok (.getfield 54, 3) := by decide +kernel
theorem dX6_row_209 : decode cX6_row 209 = .ok (.iconst 1, 1) := by decide +kernel
theorem dX6_row_210 : decode cX6_row 210 = .ok (.isub, 1) := by decide +kernel
theorem dX6_row_211 : decode cX6_row 211 = .ok (.ireturn, 1) := by decide +kernel
set_option maxRecDepth 20000 in
theorem ggX6_right_X6_isRow : GoodIn wsX6_right wsX6_isRow := goodIn_r _ [7, 8, 9, 10, 6, 11, 12, 13, 14, 15, 16, 17, 18, 19, 20, 21, 22, 23, 24, 25, 26, 27, 28, 29, 30] (by decide +kernel) (by decide +kernel)
set_option maxRecDepth 20000 in
theorem gX6_right_X6_isRow : GoodIn wsX6_right (wsV RX6 65 RX6 yX6_isRow wsX6_isRow) := goodIn_app (goodIn_of _ (by decide +kernel)) ggX6_right_X6_isRow
set_option maxRecDepth 20000 in
theorem ggX6_right_X6_in : GoodIn wsX6_right wsX6_in := goodIn_r _ [11] (by decide +kernel) (by decide +kernel)
set_option maxRecDepth 20000 in
theorem gX6_right_X6_in : GoodIn wsX6_right (va_wsS RX6 57 yX6_in wsX6_in) := goodIn_app (goodIn_of _ (by decide +kernel)) ggX6_right_X6_in
theorem dX6_right_0 : decode cX6_right 0 = .ok (.aload_n 0, 1) := by decide +kernel
theorem dX6_right_1 : decode cX6_right 1 = .ok (.iload_n 1, 1) := by decide +kernel
theorem dX6_right_2 : decode cX6_right 2 = .ok (.invokevirtual 65, 3) := by decide +kernel
theorem dX6_right_5 : decode cX6_right 5 = .ok (.ifCond .eq 24, 3) := by decide +kernel
theorem dX6_right_8 : decode cX6_right 8 = .ok (.iload_n 2, 1) := by decide +kernel
theorem dX6_right_9 : decode cX6_right 9 = .ok (.bipush (-99), 2) := by decide +kernel
theorem dX6_right_11 : decode cX6_right 11 = .ok (.bipush 99, 2) := by decide +kernel
theorem dX6_right_13 : decode cX6_right 13 = .ok (.invokestatic 57, 3) := by decide +kernel
theorem dX6_right_16 : decode cX6_right 16 = .ok (.ifCond .eq 13, 3) := by decide +kernel
theorem dX6_right_19 : decode cX6_right 19 = .ok (.iload_n 3, 1) := by decide +kernel
theorem dX6_right_20 : decode cX6_right 20 = .ok (.iconst 0, 1) := by decide +kernel
theorem dX6_right_21 : decode cX6_right 21 = .ok (.bipush 9, 2) := by decide +kernel
theorem dX6_right_23 : decode cX6_right 23 = .ok (.invokestatic 57, 3) := by decide +kernel
theorem dX6_right_26 : decode cX6_right 26 = .ok (.ifCond .ne 5, 3) := by decide +kernel
theorem dX6_right_29 : decode cX6_right 29 = .ok (.iconst (-1), 1) := by decide +kernel
theorem dX6_right_30 : decode cX6_right 30 = .ok (.ireturn, 1) := by decide +kernel
theorem dX6_right_31 : decode cX6_right 31 = .ok (.aload_n 0, 1) := by decide +kernel
theorem dX6_right_32 : decode cX6_right 32 = .ok (.getfield 16, 3) := by decide +kernel
theorem dX6_right_35 : decode cX6_right 35 = .ok (.iload_n 1, 1) := by decide +kernel
theorem dX6_right_36 : decode cX6_right 36 = .ok (.iload_n 2, 1) := by decide +kernel
theorem dX6_right_37 : decode cX6_right 37 = .ok (.iastore, 1) := by decide +kernel
theorem dX6_right_38 : decode cX6_right 38 = .ok (.aload_n 0, 1) := by decide +kernel
theorem dX6_right_39 : decode cX6_right 39 = .ok (.getfield 19, 3) := by decide +kernel
theorem dX6_right_42 : decode cX6_right 42 = .ok (.iload_n 1, 1) := by decide +kernel
theorem dX6_right_43 : decode cX6_right 43 = .ok (.iload_n 3, 1) := by decide +kernel
theorem dX6_right_44 : decode cX6_right 44 = .ok (.iastore, 1) := by decide +kernel
theorem dX6_right_45 : decode cX6_right 45 = .ok (.iconst 1, 1) := by decide +kernel
theorem dX6_right_46 : decode cX6_right 46 = .ok (.ireturn, 1) := by decide +kernel
set_option maxRecDepth 20000 in
theorem ggX6_strike_X6_isRow : GoodIn wsX6_strike wsX6_isRow := goodIn_r _ [6, 7, 8, 9, 5, 10, 11, 12, 13, 14, 15, 16, 17, 18, 19, 20, 21, 22, 23, 24, 25, 26, 27, 28, 29] (by decide +kernel) (by decide +kernel)
set_option maxRecDepth 20000 in
theorem gX6_strike_X6_isRow : GoodIn wsX6_strike (wsV RX6 65 RX6 yX6_isRow wsX6_isRow) := goodIn_app (goodIn_of _ (by decide +kernel)) ggX6_strike_X6_isRow
set_option maxRecDepth 20000 in
theorem ggX6_strike_X6_in : GoodIn wsX6_strike wsX6_in := goodIn_r _ [10] (by decide +kernel) (by decide +kernel)
set_option maxRecDepth 20000 in
theorem gX6_strike_X6_in : GoodIn wsX6_strike (va_wsS RX6 57 yX6_in wsX6_in) := goodIn_app (goodIn_of _ (by decide +kernel)) ggX6_strike_X6_in
theorem dX6_strike_0 : decode cX6_strike 0 = .ok (.aload_n 0, 1) := by decide +kernel
theorem dX6_strike_1 : decode cX6_strike 1 = .ok (.iload_n 1, 1) := by decide +kernel
theorem dX6_strike_2 : decode cX6_strike 2 = .ok (.invokevirtual 65, 3) := by decide +kernel
theorem dX6_strike_5 : decode cX6_strike 5 = .ok (.ifCond .eq 12, 3) := by decide +kernel
theorem dX6_strike_8 : decode cX6_strike 8 = .ok (.iload_n 2, 1) := by decide +kernel
theorem dX6_strike_9 : decode cX6_strike 9 = .ok (.iconst 0, 1) := by decide +kernel
theorem dX6_strike_10 : decode cX6_strike 10 = .ok (.iconst 1, 1) := by decide +kernel
theorem dX6_strike_11 : decode cX6_strike 11 = .ok (.invokestatic 57, 3) := by decide +kernel
theorem dX6_strike_14 : decode cX6_strike 14 = .ok (.ifCond .ne 5, 3) := by decide +kernel
theorem dX6_strike_17 : decode cX6_strike 17 = .ok (.iconst (-1), 1) := by decide +kernel
theorem dX6_strike_18 : decode cX6_strike 18 = .ok (.ireturn, 1) := by decide +kernel
theorem dX6_strike_19 : decode cX6_strike 19 = .ok (.aload_n 0, 1) := by decide +kernel
theorem dX6_strike_20 : decode cX6_strike 20 = .ok (.getfield 28, 3) := by decide +kernel
theorem dX6_strike_23 : decode cX6_strike 23 = .ok (.iload_n 1, 1) := by decide +kernel
theorem dX6_strike_24 : decode cX6_strike 24 = .ok (.baload, 1) := by decide +kernel
theorem dX6_strike_25 : decode cX6_strike 25 = .ok (.ifCond .eq 7, 3) := by decide +kernel
theorem dX6_strike_28 : decode cX6_strike 28 = .ok (.iconst 1, 1) := by decide +kernel
theorem dX6_strike_29 : decode cX6_strike 29 = .ok (.goto 4, 3) := by decide +kernel
theorem dX6_strike_32 : decode cX6_strike 32 = .ok (.iconst 0, 1) := by decide +kernel
theorem dX6_strike_33 : decode cX6_strike 33 = .ok (.istore_n 3, 1) := by decide +kernel
theorem dX6_strike_34 : decode cX6_strike 34 = .ok (.aload_n 0, 1) := by decide +kernel
theorem dX6_strike_35 : decode cX6_strike 35 = .ok (.getfield 28, 3) := by decide +kernel
theorem dX6_strike_38 : decode cX6_strike 38 = .ok (.iload_n 1, 1) := by decide +kernel
theorem dX6_strike_39 : decode cX6_strike 39 = .ok (.iload_n 2, 1) := by decide +kernel
theorem dX6_strike_40 : decode cX6_strike 40 = .ok (.iconst 1, 1) := by decide +kernel
theorem dX6_strike_41 : decode cX6_strike 41 = .ok (.if_icmp .ne 7, 3) := by decide +kernel
theorem dX6_strike_44 : decode cX6_strike 44 = .ok (.iconst 1, 1) := by decide +kernel
theorem dX6_strike_45 : decode cX6_strike 45 = .ok (.goto 4, 3) := by decide +kernel
theorem dX6_strike_48 : decode cX6_strike 48 = .ok (.iconst 0, 1) := by decide +kernel
theorem dX6_strike_49 : decode cX6_strike 49 = .ok (.bastore, 1) := by decide +kernel
theorem dX6_strike_50 : decode cX6_strike 50 = .ok (.iload_n 3, 1) := by decide +kernel
theorem dX6_strike_51 : decode cX6_strike 51 = .ok (.ireturn, 1) := by decide +kernel
set_option maxRecDepth 20000 in
theorem ggX6_about_X6_isRow : GoodIn wsX6_about wsX6_isRow := goodIn_r _ [12, 13, 14, 15, 11, 16, 17, 18, 19, 20, 21, 22, 23, 24, 25, 26, 27, 28, 29, 30, 31, 32, 33, 34, 35] (by decide +kernel) (by decide +kernel)
set_option maxRecDepth 20000 in
theorem gX6_about_X6_isRow : GoodIn wsX6_about (wsV RX6 65 RX6 yX6_isRow wsX6_isRow) := goodIn_app (goodIn_of _ (by decide +kernel)) ggX6_about_X6_isRow
set_option maxRecDepth 20000 in
theorem ggX6_about_X6_in : GoodIn wsX6_about wsX6_in := goodIn_r _ [16] (by decide +kernel) (by decide +kernel)
set_option maxRecDepth 20000 in
theorem gX6_about_X6_in : GoodIn wsX6_about (va_wsS RX6 57 yX6_in wsX6_in) := goodIn_app (goodIn_of _ (by decide +kernel)) ggX6_about_X6_in
theorem dX6_about_0 : decode cX6_about 0 = .ok (.aload_n 0, 1) := by decide +kernel
theorem dX6_about_1 : decode cX6_about 1 = .ok (.iload_n 1, 1) := by decide +kernel
theorem dX6_about_2 : decode cX6_about 2 = .ok (.invokevirtual 65, 3) := by decide +kernel
theorem dX6_about_5 : decode cX6_about 5 = .ok (.ifCond .eq 13, 3) := by decide +kernel
theorem dX6_about_8 : decode cX6_about 8 = .ok (.iload_n 2, 1) := by decide +kernel
theorem dX6_about_9 : decode cX6_about 9 = .ok (.iconst 0, 1) := by decide +kernel
theorem dX6_about_10 : decode cX6_about 10 = .ok (.bipush 8, 2) := by decide +kernel
theorem dX6_about_12 : decode cX6_about 12 = .ok (.invokestatic 57, 3) := by decide +kernel
theorem dX6_about_15 : decode cX6_about 15 = .ok (.ifCond .ne 7, 3) := by decide +kernel
theorem dX6_about_18 : decode cX6_about 18 = .ok (.sipush (-1000), 3) := by decide +kernel
theorem dX6_about_21 : decode cX6_about 21 = .ok (.ireturn, 1) := by decide +kernel
theorem dX6_about_22 : decode cX6_about 22 = .ok (.iload_n 2, 1) := by decide +kernel
theorem dX6_about_23 : decode cX6_about 23 = .ok (.tableswitch 99 0 8 #[49, 56, 63, 70, 77, 99, 99, 99, 84], 49) := by decide +kernel
theorem dX6_about_72 : decode cX6_about 72 = .ok (.aload_n 0, 1) := by decide +kernel
theorem dX6_about_73 : decode cX6_about 73 = .ok (.getfield 7, 3) := by decide +kernel
theorem dX6_about_76 : decode cX6_about 76 = .ok (.iload_n 1, 1) := by decide +kernel
theorem dX6_about_77 : decode cX6_about 77 = .ok (.iaload, 1) := by decide +kernel
theorem dX6_about_78 : decode cX6_about 78 = .ok (.ireturn, 1) := by decide +kernel
theorem dX6_about_79 : decode cX6_about 79 = .ok (.aload_n 0, 1) := by decide +kernel
theorem dX6_about_80 : decode cX6_about 80 = .ok (.getfield 13, 3) := by decide +kernel
theorem dX6_about_83 : decode cX6_about 83 = .ok (.iload_n 1, 1) := by decide +kernel
theorem dX6_about_84 : decode cX6_about 84 = .ok (.iaload, 1) := by decide +kernel
theorem dX6_about_85 : decode cX6_about 85 = .ok (.ireturn, 1) := by decide +kernel
theorem dX6_about_86 : decode cX6_about 86 = .ok (.aload_n 0, 1) := by decide +kernel
theorem dX6_about_87 : decode cX6_about 87 = .ok (.getfield 16, 3) := by decide +kernel
theorem dX6_about_90 : decode cX6_about 90 = .ok (.iload_n 1, 1) := by decide +kernel
theorem dX6_about_91 : decode cX6_about 91 = .ok (.iaload, 1) := by decide +kernel
theorem dX6_about_92 : decode cX6_about 92 = .ok (.ireturn, 1) := by decide +kernel
theorem dX6_about_93 : decode cX6_about 93 = .ok (.aload_n 0, 1) := by decide +kernel
theorem dX6_about_94 : decode cX6_about 94 = .ok (.getfield 19, 3) := by decide +kernel
theorem dX6_about_97 : decode cX6_about 97 = .ok (.iload_n 1, 1) := by decide +kernel
theorem dX6_about_98 : decode cX6_about 98 = .ok (.iaload, 1) := by decide +kernel
theorem dX6_about_99 : decode cX6_about 99 = .ok (.ireturn, 1) := by decide +kernel
theorem dX6_about_100 : decode cX6_about 100 = .ok (.aload_n 0, 1) := by decide +kernel
theorem dX6_about_101 : decode cX6_about 101 = .ok (.getfield 22, 3) := by decide +kernel
theorem dX6_about_104 : decode cX6_about 104 = .ok (.iload_n 1, 1) := by decide +kernel
theorem dX6_about_105 : decode cX6_about 105 = .ok (.iaload, 1) := by decide +kernel
theorem dX6_about_106 : decode cX6_about 106 = .ok (.ireturn, 1) := by decide +kernel
theorem dX6_about_107 : decode cX6_about 107 = .ok (.aload_n 0, 1) := by decide +kernel
theorem dX6_about_108 : decode cX6_about 108 = .ok (.getfield 28, 3) := by decide +kernel
theorem dX6_about_111 : decode cX6_about 111 = .ok (.iload_n 1, 1) := by decide +kernel
theorem dX6_about_112 : decode cX6_about 112 = .ok (.baload, 1) := by decide +kernel
theorem dX6_about_113 : decode cX6_about 113 = .ok (.ifCond .eq 7, 3) := by decide +kernel
theorem dX6_about_116 : decode cX6_about 116 = .ok (.iconst 1, 1) := by decide +kernel
theorem dX6_about_117 : decode cX6_about 117 = .ok (.goto 4, 3) := by decide +kernel
theorem dX6_about_120 : decode cX6_about 120 = .ok (.iconst 0, 1) := by decide +kernel
theorem dX6_about_121 : decode cX6_about 121 = .ok (.ireturn, 1) := by decide +kernel
theorem dX6_about_122 : decode cX6_about 122 = .ok (.aload_n 0, 1) := by decide +kernel
theorem dX6_about_123 : decode cX6_about 123 = .ok (.getfield 25, 3) := by decide +kernel
theorem dX6_about_126 : decode cX6_about 126 = .ok (.iconst 3, 1) := by decide +kernel
theorem dX6_about_127 : decode cX6_about 127 = .ok (.iload_n 1, 1) := by decide +kernel
theorem dX6_about_128 : decode cX6_about 128 = .ok (.imul, 1) := by decide +kernel
theorem dX6_about_129 : decode cX6_about 129 = .ok (.iload_n 2, 1) := by decide +kernel
theorem dX6_about_130 : decode cX6_about 130 = .ok (.iadd, 1) := by decide +kernel
theorem dX6_about_131 : decode cX6_about 131 = .ok (.iconst 5, 1) := by decide +kernel
theorem dX6_about_132 : decode cX6_about 132 = .ok (.isub, 1) := by decide +kernel
theorem dX6_about_133 : decode cX6_about 133 = .ok (.iaload, 1) := by decide +kernel
theorem dX6_about_134 : decode cX6_about 134 = .ok (.ireturn, 1) := by decide +kernel
set_option maxRecDepth 20000 in
theorem ggX6_isIn_X6_digit : GoodIn wsX6_isIn wsX6_digit := goodIn_r _ [6] (by decide +kernel) (by decide +kernel)
set_option maxRecDepth 20000 in
theorem gX6_isIn_X6_digit : GoodIn wsX6_isIn (va_wsS RX6 61 yX6_digit wsX6_digit) := goodIn_app (goodIn_of _ (by decide +kernel)) ggX6_isIn_X6_digit
theorem dX6_isIn_0 : decode cX6_isIn 0 = .ok (.aload_n 0, 1) := by decide +kernel
theorem dX6_isIn_1 : decode cX6_isIn 1 = .ok (.getfield 28, 3) := by decide +kernel
theorem dX6_isIn_4 : decode cX6_isIn 4 = .ok (.iload_n 1, 1) := by decide +kernel
theorem dX6_isIn_5 : decode cX6_isIn 5 = .ok (.baload, 1) := by decide +kernel
theorem dX6_isIn_6 : decode cX6_isIn 6 = .ok (.ifCond .ne 7, 3) := by decide +kernel
theorem dX6_isIn_9 : decode cX6_isIn 9 = .ok (.iconst 1, 1) := by decide +kernel
theorem dX6_isIn_10 : decode cX6_isIn 10 = .ok (.goto 4, 3) := by decide +kernel
theorem dX6_isIn_13 : decode cX6_isIn 13 = .ok (.iconst 0, 1) := by decide +kernel
theorem dX6_isIn_14 : decode cX6_isIn 14 = .ok (.istore_n 3, 1) := by decide +kernel
theorem dX6_isIn_15 : decode cX6_isIn 15 = .ok (.iconst 0, 1) := by decide +kernel
theorem dX6_isIn_16 : decode cX6_isIn 16 = .ok (.istore 4, 2) := by decide +kernel
theorem dX6_isIn_18 : decode cX6_isIn 18 = .ok (.iload 4, 2) := by decide +kernel
theorem dX6_isIn_20 : decode cX6_isIn 20 = .ok (.iconst 3, 1) := by decide +kernel
theorem dX6_isIn_21 : decode cX6_isIn 21 = .ok (.if_icmp .ge 50, 3) := by decide +kernel
theorem dX6_isIn_24 : decode cX6_isIn 24 = .ok (.iload_n 3, 1) := by decide +kernel
theorem dX6_isIn_25 : decode cX6_isIn 25 = .ok (.ifCond .eq 38, 3) := by decide +kernel
theorem dX6_isIn_28 : decode cX6_isIn 28 = .ok (.iload_n 2, 1) := by decide +kernel
theorem dX6_isIn_29 : decode cX6_isIn 29 = .ok (.iload 4, 2) := by decide +kernel
theorem dX6_isIn_31 : decode cX6_isIn 31 = .ok (.invokestatic 61, 3) := by decide +kernel
theorem dX6_isIn_34 : decode cX6_isIn 34 = .ok (.ifCond .eq 25, 3) := by decide +kernel
theorem dX6_isIn_37 : decode cX6_isIn 37 = .ok (.iload_n 2, 1) := by decide +kernel
theorem dX6_isIn_38 : decode cX6_isIn 38 = .ok (.iload 4, 2) := by decide +kernel
theorem dX6_isIn_40 : decode cX6_isIn 40 = .ok (.invokestatic 61, 3) := by decide +kernel
theorem dX6_isIn_43 : decode cX6_isIn 43 = .ok (.aload_n 0, 1) := by decide +kernel
theorem dX6_isIn_44 : decode cX6_isIn 44 = .ok (.getfield 25, 3) := by decide +kernel
