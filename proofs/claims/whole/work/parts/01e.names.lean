set_option maxRecDepth 20000 in
theorem ggX7_init_X6_init : GoodIn wsX7_init wsX6_init := goodIn_r _ [43, 44, 2, 3, 38, 45, 46, 47, 48, 49, 50, 51, 52, 112, 113, 114, 115, 116, 117, 118] (by decide +kernel) (by decide +kernel)
set_option maxRecDepth 20000 in
theorem gX7_init_X6_init : GoodIn wsX7_init (wsX6_init) := ggX7_init_X6_init
set_option maxRecDepth 20000 in
theorem ggX7_init_X0_init : GoodIn wsX7_init wsX0_init := goodIn_r _ [55, 56, 2, 3, 38, 57, 49, 58, 59, 60, 119, 120, 121, 122] (by decide +kernel) (by decide +kernel)
set_option maxRecDepth 20000 in
theorem gX7_init_X0_init : GoodIn wsX7_init (wsX0_init) := ggX7_init_X0_init
set_option maxRecDepth 20000 in
theorem ggX7_init_X1_init : GoodIn wsX7_init wsX1_init := goodIn_r _ [63, 64, 2, 3, 38, 65, 66, 67, 123, 124, 125] (by decide +kernel) (by decide +kernel)
set_option maxRecDepth 20000 in
theorem gX7_init_X1_init : GoodIn wsX7_init (wsX1_init) := ggX7_init_X1_init
set_option maxRecDepth 20000 in
theorem ggX7_init_X2_init : GoodIn wsX7_init wsX2_init := goodIn_r _ [70, 71, 2, 3, 72, 26, 27, 73, 74, 75, 76, 77, 78, 79, 80, 81, 82, 83, 84, 38, 85, 49, 86, 87, 88, 129, 130, 131, 132, 133, 126, 127, 128] (by decide +kernel) (by decide +kernel)
set_option maxRecDepth 20000 in
theorem gX7_init_X2_init : GoodIn wsX7_init (wsX2_init) := ggX7_init_X2_init
set_option maxRecDepth 20000 in
theorem ggX7_init_X3_init : GoodIn wsX7_init wsX3_init := goodIn_r _ [78, 79, 2, 3, 80, 81, 82, 83, 84, 38, 85, 49, 86, 87, 88, 129, 130, 131, 132, 133] (by decide +kernel) (by decide +kernel)
set_option maxRecDepth 20000 in
theorem gX7_init_X3_init : GoodIn wsX7_init (wsX3_init) := ggX7_init_X3_init
set_option maxRecDepth 20000 in
theorem ggX7_init_X4_init : GoodIn wsX7_init wsX4_init := goodIn_r _ [92, 93, 2, 3, 38, 94, 95, 96, 134, 135, 136] (by decide +kernel) (by decide +kernel)
set_option maxRecDepth 20000 in
theorem gX7_init_X4_init : GoodIn wsX7_init (wsX4_init) := ggX7_init_X4_init
theorem dX7_init_0 : decode cX7_init 0 = .ok (.aload_n 0, 1) := by decide +kernel
theorem dX7_init_1 : decode cX7_init 1 = .ok (.invokespecial 1, 3) := by decide +kernel
theorem dX7_init_4 : decode cX7_init 4 = .ok (.aload_n 0, 1) := by decide +kernel
theorem dX7_init_5 : decode cX7_init 5 = .ok (.new 7, 3) := by decide +kernel
theorem dX7_init_8 : decode cX7_init 8 = .ok (.dup, 1) := by decide +kernel
theorem dX7_init_9 : decode cX7_init 9 = .ok (.invokespecial 9, 3) := by decide +kernel
theorem dX7_init_12 : decode cX7_init 12 = .ok (.putfield 10, 3) := by decide +kernel
theorem dX7_init_15 : decode cX7_init 15 = .ok (.aload_n 0, 1) := by decide +kernel
theorem dX7_init_16 : decode cX7_init 16 = .ok (.new 16, 3) := by decide +kernel
theorem dX7_init_19 : decode cX7_init 19 = .ok (.dup, 1) := by decide +kernel
theorem dX7_init_20 : decode cX7_init 20 = .ok (.invokespecial 18, 3) := by decide +kernel
theorem dX7_init_23 : decode cX7_init 23 = .ok (.putfield 19, 3) := by decide +kernel
theorem dX7_init_26 : decode cX7_init 26 = .ok (.aload_n 0, 1) := by decide +kernel
theorem dX7_init_27 : decode cX7_init 27 = .ok (.new 16, 3) := by decide +kernel
theorem dX7_init_30 : decode cX7_init 30 = .ok (.dup, 1) := by decide +kernel
theorem dX7_init_31 : decode cX7_init 31 = .ok (.invokespecial 18, 3) := by decide +kernel
theorem dX7_init_34 : decode cX7_init 34 = .ok (.putfield 23, 3) := by decide +kernel
theorem dX7_init_37 : decode cX7_init 37 = .ok (.aload_n 0, 1) := by decide +kernel
theorem dX7_init_38 : decode cX7_init 38 = .ok (.new 26, 3) := by decide +kernel
theorem dX7_init_41 : decode cX7_init 41 = .ok (.dup, 1) := by decide +kernel
theorem dX7_init_42 : decode cX7_init 42 = .ok (.invokespecial 28, 3) := by decide +kernel
theorem dX7_init_45 : decode cX7_init 45 = .ok (.putfield 29, 3) := by decide +kernel
theorem dX7_init_48 : decode cX7_init 48 = .ok (.aload_n 0, 1) := by decide +kernel
theorem dX7_init_49 : decode cX7_init 49 = .ok (.new 33, 3) := by decide +kernel
theorem dX7_init_52 : decode cX7_init 52 = .ok (.dup, 1) := by decide +kernel
theorem dX7_init_53 : decode cX7_init 53 = .ok (.aload_n 0, 1) := by decide +kernel
theorem dX7_init_54 : decode cX7_init 54 = .ok (.getfield 19, 3) := by decide +kernel
theorem dX7_init_57 : decode cX7_init 57 = .ok (.aload_n 0, 1) := by decide +kernel
theorem dX7_init_58 : decode cX7_init 58 = .ok (.getfield 29, 3) := by decide +kernel
theorem dX7_init_61 : decode cX7_init 61 = .ok (.invokespecial 35, 3) := by decide +kernel
theorem dX7_init_64 : decode cX7_init 64 = .ok (.putfield 38, 3) := by decide +kernel
theorem dX7_init_67 : decode cX7_init 67 = .ok (.aload_n 0, 1) := by decide +kernel
theorem dX7_init_68 : decode cX7_init 68 = .ok (.new 42, 3) := by decide +kernel
theorem dX7_init_71 : decode cX7_init 71 = .ok (.dup, 1) := by decide +kernel
theorem dX7_init_72 : decode cX7_init 72 = .ok (.invokespecial 44, 3) := by decide +kernel
theorem dX7_init_75 : decode cX7_init 75 = .ok (.putfield 45, 3) := by decide +kernel
theorem dX7_init_78 : decode cX7_init 78 = .ok (.aload_n 0, 1) := by decide +kernel
theorem dX7_init_79 : decode cX7_init 79 = .ok (.new 49, 3) := by decide +kernel
theorem dX7_init_82 : decode cX7_init 82 = .ok (.dup, 1) := by decide +kernel
theorem dX7_init_83 : decode cX7_init 83 = .ok (.iconst 2, 1) := by decide +kernel
theorem dX7_init_84 : decode cX7_init 84 = .ok (.invokespecial 51, 3) := by decide +kernel
theorem dX7_init_87 : decode cX7_init 87 = .ok (.putfield 54, 3) := by decide +kernel
theorem dX7_init_90 : decode cX7_init 90 = .ok (.aload_n 0, 1) := by decide +kernel
theorem dX7_init_91 : decode cX7_init 91 = .ok (.new 58, 3) := by decide +kernel
theorem dX7_init_94 : decode cX7_init 94 = .ok (.dup, 1) := by decide +kernel
theorem dX7_init_95 : decode cX7_init 95 = .ok (.invokespecial 60, 3) := by decide +kernel
theorem dX7_init_98 : decode cX7_init 98 = .ok (.putfield 61, 3) := by decide +kernel
theorem dX7_init_101 : decode cX7_init 101 = .ok (.aload_n 0, 1) := by decide +kernel
theorem dX7_init_102 : decode cX7_init 102 = .ok (.iconst 0, 1) := by decide +kernel
theorem dX7_init_103 : decode cX7_init 103 = .ok (.putfield 65, 3) := by decide +kernel
theorem dX7_init_106 : decode cX7_init 106 = .ok (.return_, 1) := by decide +kernel
set_option maxRecDepth 20000 in
theorem ggX7_write_X7_isWithin : GoodIn wsX7_write wsX7_isWithin := goodIn_r _ [5] (by decide +kernel) (by decide +kernel)
set_option maxRecDepth 20000 in
theorem gX7_write_X7_isWithin : GoodIn wsX7_write (va_wsS RX7 69 yX7_isWithin wsX7_isWithin) := goodIn_app (goodIn_of _ (by decide +kernel)) ggX7_write_X7_isWithin
set_option maxRecDepth 20000 in
theorem ggX7_write_X5_add : GoodIn wsX7_write wsX5_add := goodIn_r _ [10, 11, 12, 26, 27, 28, 29, 30, 31] (by decide +kernel) (by decide +kernel)
set_option maxRecDepth 20000 in
theorem gX7_write_X5_add : GoodIn wsX7_write (wsV RX7 73 RX5 yX5_add wsX5_add) := goodIn_app (goodIn_of _ (by decide +kernel)) ggX7_write_X5_add
set_option maxRecDepth 20000 in
theorem ggX7_write_X5_size : GoodIn wsX7_write wsX5_size := goodIn_r _ [16, 11, 26, 27, 28, 29, 30, 31] (by decide +kernel) (by decide +kernel)
set_option maxRecDepth 20000 in
theorem gX7_write_X5_size : GoodIn wsX7_write (wsV RX7 77 RX5 yX5_size wsX5_size) := goodIn_app (goodIn_of _ (by decide +kernel)) ggX7_write_X5_size
theorem dX7_write_0 : decode cX7_write 0 = .ok (.iload_n 1, 1) := by decide +kernel
theorem dX7_write_1 : decode cX7_write 1 = .ok (.iconst 0, 1) := by decide +kernel
theorem dX7_write_2 : decode cX7_write 2 = .ok (.sipush 255, 3) := by decide +kernel
theorem dX7_write_5 : decode cX7_write 5 = .ok (.invokestatic 69, 3) := by decide +kernel
theorem dX7_write_8 : decode cX7_write 8 = .ok (.ifCond .ne 6, 3) := by decide +kernel
theorem dX7_write_11 : decode cX7_write 11 = .ok (.bipush (-3), 2) := by decide +kernel
theorem dX7_write_13 : decode cX7_write 13 = .ok (.ireturn, 1) := by decide +kernel
theorem dX7_write_14 : decode cX7_write 14 = .ok (.aload_n 0, 1) := by decide +kernel
theorem dX7_write_15 : decode cX7_write 15 = .ok (.getfield 10, 3) := by decide +kernel
theorem dX7_write_18 : decode cX7_write 18 = .ok (.iload_n 1, 1) := by decide +kernel
theorem dX7_write_19 : decode cX7_write 19 = .ok (.invokevirtual 73, 3) := by decide +kernel
theorem dX7_write_22 : decode cX7_write 22 = .ok (.ifCond .eq 13, 3) := by decide +kernel
theorem dX7_write_25 : decode cX7_write 25 = .ok (.aload_n 0, 1) := by decide +kernel
theorem dX7_write_26 : decode cX7_write 26 = .ok (.getfield 10, 3) := by decide +kernel
theorem dX7_write_29 : decode cX7_write 29 = .ok (.invokevirtual 77, 3) := by decide +kernel
theorem dX7_write_32 : decode cX7_write 32 = .ok (.goto 5, 3) := by decide +kernel
theorem dX7_write_35 : decode cX7_write 35 = .ok (.bipush (-5), 2) := by decide +kernel
theorem dX7_write_37 : decode cX7_write 37 = .ok (.ireturn, 1) := by decide +kernel
set_option maxRecDepth 20000 in
theorem ggX7_erase_X5_size : GoodIn wsX7_erase wsX5_size := goodIn_r _ [6, 7, 21, 22, 23, 24, 25, 26] (by decide +kernel) (by decide +kernel)
set_option maxRecDepth 20000 in
theorem gX7_erase_X5_size : GoodIn wsX7_erase (wsV RX7 77 RX5 yX5_size wsX5_size) := goodIn_app (goodIn_of _ (by decide +kernel)) ggX7_erase_X5_size
set_option maxRecDepth 20000 in
theorem ggX7_erase_X5_empty : GoodIn wsX7_erase wsX5_empty := goodIn_r _ [11, 7, 21, 22, 23, 24, 25, 26] (by decide +kernel) (by decide +kernel)
set_option maxRecDepth 20000 in
theorem gX7_erase_X5_empty : GoodIn wsX7_erase (wsV RX7 81 RX5 yX5_empty wsX5_empty) := goodIn_app (goodIn_of _ (by decide +kernel)) ggX7_erase_X5_empty
theorem dX7_erase_0 : decode cX7_erase 0 = .ok (.aload_n 0, 1) := by decide +kernel
theorem dX7_erase_1 : decode cX7_erase 1 = .ok (.getfield 10, 3) := by decide +kernel
theorem dX7_erase_4 : decode cX7_erase 4 = .ok (.invokevirtual 77, 3) := by decide +kernel
theorem dX7_erase_7 : decode cX7_erase 7 = .ok (.istore_n 1, 1) := by decide +kernel
theorem dX7_erase_8 : decode cX7_erase 8 = .ok (.aload_n 0, 1) := by decide +kernel
theorem dX7_erase_9 : decode cX7_erase 9 = .ok (.getfield 10, 3) := by decide +kernel
theorem dX7_erase_12 : decode cX7_erase 12 = .ok (.invokevirtual 81, 3) := by decide +kernel
theorem dX7_erase_15 : decode cX7_erase 15 = .ok (.iload_n 1, 1) := by decide +kernel
theorem dX7_erase_16 : decode cX7_erase 16 = .ok (.ireturn, 1) := by decide +kernel
set_option maxRecDepth 20000 in
theorem ggX7_fault_X6_copyFrom : GoodIn wsX7_fault wsX6_copyFrom := goodIn_r _ [8, 9, 10, 11, 12, 13, 14, 15, 143, 144, 145, 146, 147, 148, 149] (by decide +kernel) (by decide +kernel)
set_option maxRecDepth 20000 in
theorem gX7_fault_X6_copyFrom : GoodIn wsX7_fault (wsV RX7 84 RX6 yX6_copyFrom wsX6_copyFrom) := goodIn_app (goodIn_of _ (by decide +kernel)) ggX7_fault_X6_copyFrom
set_option maxRecDepth 20000 in
theorem ggX7_fault_X5_readInto : GoodIn wsX7_fault wsX5_readInto := goodIn_r _ [20, 21, 22, 23, 24, 25, 26, 27, 19, 28, 29, 30, 31, 32, 33, 34, 35, 36, 37, 38, 39, 40, 41, 42, 43, 44, 45, 46, 47, 48, 49, 50, 51, 52, 53, 54, 55, 56, 57, 58, 59, 60, 61, 62, 63, 64, 65, 66, 67, 68, 69, 70, 71, 72, 73, 74, 75, 76, 77, 78, 79, 80, 81, 82, 83, 84, 85, 86, 87, 88, 89, 90, 91, 92, 93, 94, 95, 96, 97, 98, 99, 100, 101, 102, 103, 104, 105, 7, 106, 14, 107, 108, 109, 110, 111, 112, 113, 114, 115, 116, 117, 9, 10, 11, 12, 118, 119, 120, 121, 122, 123, 124, 125, 126, 127, 128, 13, 129, 130, 131, 132, 133, 15, 150, 151, 152, 153, 154, 155, 143, 144, 145, 146, 147, 148, 149] (by decide +kernel) (by decide +kernel)
set_option maxRecDepth 20000 in
theorem gX7_fault_X5_readInto : GoodIn wsX7_fault (wsV RX7 88 RX5 yX5_readInto wsX5_readInto) := goodIn_app (goodIn_of _ (by decide +kernel)) ggX7_fault_X5_readInto
theorem dX7_fault_0 : decode cX7_fault 0 = .ok (.aload_n 0, 1) := by decide +kernel
theorem dX7_fault_1 : decode cX7_fault 1 = .ok (.getfield 23, 3) := by decide +kernel
theorem dX7_fault_4 : decode cX7_fault 4 = .ok (.aload_n 0, 1) := by decide +kernel
theorem dX7_fault_5 : decode cX7_fault 5 = .ok (.getfield 19, 3) := by decide +kernel
theorem dX7_fault_8 : decode cX7_fault 8 = .ok (.invokevirtual 84, 3) := by decide +kernel
theorem dX7_fault_11 : decode cX7_fault 11 = .ok (.aload_n 0, 1) := by decide +kernel
theorem dX7_fault_12 : decode cX7_fault 12 = .ok (.getfield 10, 3) := by decide +kernel
theorem dX7_fault_15 : decode cX7_fault 15 = .ok (.aload_n 0, 1) := by decide +kernel
theorem dX7_fault_16 : decode cX7_fault 16 = .ok (.getfield 23, 3) := by decide +kernel
theorem dX7_fault_19 : decode cX7_fault 19 = .ok (.invokevirtual 88, 3) := by decide +kernel
theorem dX7_fault_22 : decode cX7_fault 22 = .ok (.ireturn, 1) := by decide +kernel
set_option maxRecDepth 20000 in
theorem ggX7_top_X6_copyFrom : GoodIn wsX7_top wsX6_copyFrom := goodIn_r _ [12, 13, 14, 15, 16, 17, 18, 19, 180, 181, 182, 183, 184, 185, 186] (by decide +kernel) (by decide +kernel)
set_option maxRecDepth 20000 in
theorem gX7_top_X6_copyFrom : GoodIn wsX7_top (wsV RX7 84 RX6 yX6_copyFrom wsX6_copyFrom) := goodIn_app (goodIn_of _ (by decide +kernel)) ggX7_top_X6_copyFrom
set_option maxRecDepth 20000 in
theorem ggX7_top_X5_readInto : GoodIn wsX7_top wsX5_readInto := goodIn_r _ [24, 25, 26, 27, 28, 29, 30, 31, 23, 32, 33, 34, 35, 36, 37, 38, 39, 40, 41, 42, 43, 44, 45, 46, 47, 48, 49, 50, 51, 52, 53, 54, 55, 56, 57, 58, 59, 60, 61, 62, 63, 64, 65, 66, 67, 68, 69, 70, 71, 72, 73, 74, 75, 76, 77, 78, 79, 80, 81, 82, 83, 84, 85, 86, 87, 88, 89, 90, 91, 92, 93, 94, 95, 96, 97, 98, 99, 100, 101, 102, 103, 104, 105, 106, 107, 108, 109, 11, 110, 18, 111, 112, 113, 114, 115, 116, 117, 118, 119, 120, 121, 13, 14, 15, 16, 122, 123, 124, 125, 126, 127, 128, 129, 130, 131, 132, 17, 133, 134, 135, 136, 137, 19, 187, 188, 189, 190, 191, 192, 180, 181, 182, 183, 184, 185, 186] (by decide +kernel) (by decide +kernel)
set_option maxRecDepth 20000 in
theorem gX7_top_X5_readInto : GoodIn wsX7_top (wsV RX7 88 RX5 yX5_readInto wsX5_readInto) := goodIn_app (goodIn_of _ (by decide +kernel)) ggX7_top_X5_readInto
set_option maxRecDepth 20000 in
theorem ggX7_top_X0_beginAs : GoodIn wsX7_top wsX0_beginAs := goodIn_r _ [142, 143, 144, 145, 146, 147, 148, 149, 11, 150, 17, 193, 194, 195, 196, 180, 181, 182, 183, 184, 185, 186] (by decide +kernel) (by decide +kernel)
set_option maxRecDepth 20000 in
theorem gX7_top_X0_beginAs : GoodIn wsX7_top (wsV RX7 92 RX0 yX0_beginAs wsX0_beginAs) := goodIn_app (goodIn_of _ (by decide +kernel)) ggX7_top_X0_beginAs
set_option maxRecDepth 20000 in
theorem ggX7_top_X2_empty : GoodIn wsX7_top wsX2_empty := goodIn_r _ [155, 156, 197, 198, 199] (by decide +kernel) (by decide +kernel)
set_option maxRecDepth 20000 in
theorem gX7_top_X2_empty : GoodIn wsX7_top (wsV RX7 95 RX2 yX2_empty wsX2_empty) := goodIn_app (goodIn_of _ (by decide +kernel)) ggX7_top_X2_empty
set_option maxRecDepth 20000 in
theorem ggX7_top_X4_empty : GoodIn wsX7_top wsX4_empty := goodIn_r _ [161, 162, 200, 201, 202] (by decide +kernel) (by decide +kernel)
set_option maxRecDepth 20000 in
theorem gX7_top_X4_empty : GoodIn wsX7_top (wsV RX7 96 RX4 yX4_empty wsX4_empty) := goodIn_app (goodIn_of _ (by decide +kernel)) ggX7_top_X4_empty
set_option maxRecDepth 20000 in
theorem ggX7_top_X5_empty : GoodIn wsX7_top wsX5_empty := goodIn_r _ [166, 37, 187, 188, 189, 190, 191, 192] (by decide +kernel) (by decide +kernel)
set_option maxRecDepth 20000 in
theorem gX7_top_X5_empty : GoodIn wsX7_top (wsV RX7 81 RX5 yX5_empty wsX5_empty) := goodIn_app (goodIn_of _ (by decide +kernel)) ggX7_top_X5_empty
set_option maxRecDepth 20000 in
theorem ggX7_top_X5_clausesRead : GoodIn wsX7_top wsX5_clausesRead := goodIn_r _ [170, 26, 187, 188, 189, 190, 191, 192] (by decide +kernel) (by decide +kernel)
set_option maxRecDepth 20000 in
theorem gX7_top_X5_clausesRead : GoodIn wsX7_top (wsV RX7 97 RX5 yX5_clausesRead wsX5_clausesRead) := goodIn_app (goodIn_of _ (by decide +kernel)) ggX7_top_X5_clausesRead
theorem dX7_top_0 : decode cX7_top 0 = .ok (.aload_n 0, 1) := by decide +kernel
theorem dX7_top_1 : decode cX7_top 1 = .ok (.getfield 23, 3) := by decide +kernel
theorem dX7_top_4 : decode cX7_top 4 = .ok (.aload_n 0, 1) := by decide +kernel
theorem dX7_top_5 : decode cX7_top 5 = .ok (.getfield 19, 3) := by decide +kernel
theorem dX7_top_8 : decode cX7_top 8 = .ok (.invokevirtual 84, 3) := by decide +kernel
theorem dX7_top_11 : decode cX7_top 11 = .ok (.aload_n 0, 1) := by decide +kernel
theorem dX7_top_12 : decode cX7_top 12 = .ok (.getfield 10, 3) := by decide +kernel
theorem dX7_top_15 : decode cX7_top 15 = .ok (.aload_n 0, 1) := by decide +kernel
theorem dX7_top_16 : decode cX7_top 16 = .ok (.getfield 23, 3) := by decide +kernel
theorem dX7_top_19 : decode cX7_top 19 = .ok (.invokevirtual 88, 3) := by decide +kernel
theorem dX7_top_22 : decode cX7_top 22 = .ok (.iconst (-1), 1) := by decide +kernel
theorem dX7_top_23 : decode cX7_top 23 = .ok (.if_icmp .eq 6, 3) := by decide +kernel
theorem dX7_top_26 : decode cX7_top 26 = .ok (.bipush (-4), 2) := by decide +kernel
theorem dX7_top_28 : decode cX7_top 28 = .ok (.ireturn, 1) := by decide +kernel
theorem dX7_top_29 : decode cX7_top 29 = .ok (.aload_n 0, 1) := by decide +kernel
theorem dX7_top_30 : decode cX7_top 30 = .ok (.getfield 19, 3) := by decide +kernel
theorem dX7_top_33 : decode cX7_top 33 = .ok (.aload_n 0, 1) := by decide +kernel
theorem dX7_top_34 : decode cX7_top 34 = .ok (.getfield 23, 3) := by decide +kernel
theorem dX7_top_37 : decode cX7_top 37 = .ok (.invokevirtual 84, 3) := by decide +kernel
theorem dX7_top_40 : decode cX7_top 40 = .ok (.aload_n 0, 1) := by decide +kernel
theorem dX7_top_41 : decode cX7_top 41 = .ok (.getfield 29, 3) := by decide +kernel
theorem dX7_top_44 : decode cX7_top 44 = .ok (.aload_n 0, 1) := by decide +kernel
theorem dX7_top_45 : decode cX7_top 45 = .ok (.getfield 19, 3) := by decide +kernel
theorem dX7_top_48 : decode cX7_top 48 = .ok (.invokevirtual 92, 3) := by decide +kernel
theorem dX7_top_51 : decode cX7_top 51 = .ok (.aload_n 0, 1) := by decide +kernel
theorem dX7_top_52 : decode cX7_top 52 = .ok (.getfield 45, 3) := by decide +kernel
theorem dX7_top_55 : decode cX7_top 55 = .ok (.invokevirtual 95, 3) := by decide +kernel
theorem dX7_top_58 : decode cX7_top 58 = .ok (.aload_n 0, 1) := by decide +kernel
theorem dX7_top_59 : decode cX7_top 59 = .ok (.getfield 61, 3) := by decide +kernel
theorem dX7_top_62 : decode cX7_top 62 = .ok (.invokevirtual 96, 3) := by decide +kernel
theorem dX7_top_65 : decode cX7_top 65 = .ok (.aload_n 0, 1) := by decide +kernel
theorem dX7_top_66 : decode cX7_top 66 = .ok (.iconst 0, 1) := by decide +kernel
theorem dX7_top_67 : decode cX7_top 67 = .ok (.putfield 65, 3) := by decide +kernel
theorem dX7_top_70 : decode cX7_top 70 = .ok (.aload_n 0, 1) := by decide +kernel
theorem dX7_top_71 : decode cX7_top 71 = .ok (.getfield 10, 3) := by decide +kernel
theorem dX7_top_74 : decode cX7_top 74 = .ok (.invokevirtual 81, 3) := by decide +kernel
theorem dX7_top_77 : decode cX7_top 77 = .ok (.aload_n 0, 1) := by decide +kernel
theorem dX7_top_78 : decode cX7_top 78 = .ok (.getfield 10, 3) := by decide +kernel
theorem dX7_top_81 : decode cX7_top 81 = .ok (.invokevirtual 97, 3) := by decide +kernel
theorem dX7_top_84 : decode cX7_top 84 = .ok (.ireturn, 1) := by decide +kernel
set_option maxRecDepth 20000 in
theorem ggX7_person_X6_knows : GoodIn wsX7_person wsX6_knows := goodIn_r _ [8, 9, 128, 129, 130, 131, 132, 133, 134] (by decide +kernel) (by decide +kernel)
set_option maxRecDepth 20000 in
theorem gX7_person_X6_knows : GoodIn wsX7_person (wsV RX7 100 RX6 yX6_knows wsX6_knows) := goodIn_app (goodIn_of _ (by decide +kernel)) ggX7_person_X6_knows
set_option maxRecDepth 20000 in
theorem ggX7_person_X6_kindOf : GoodIn wsX7_person wsX6_kindOf := goodIn_r _ [13, 14, 128, 129, 130, 131, 132, 133, 134] (by decide +kernel) (by decide +kernel)
set_option maxRecDepth 20000 in
theorem gX7_person_X6_kindOf : GoodIn wsX7_person (wsV RX7 103 RX6 yX6_kindOf wsX6_kindOf) := goodIn_app (goodIn_of _ (by decide +kernel)) ggX7_person_X6_kindOf
set_option maxRecDepth 20000 in
theorem ggX7_person_X6_paceOf : GoodIn wsX7_person wsX6_paceOf := goodIn_r _ [18, 19, 128, 129, 130, 131, 132, 133, 134] (by decide +kernel) (by decide +kernel)
set_option maxRecDepth 20000 in
theorem gX7_person_X6_paceOf : GoodIn wsX7_person (wsV RX7 107 RX6 yX6_paceOf wsX6_paceOf) := goodIn_app (goodIn_of _ (by decide +kernel)) ggX7_person_X6_paceOf
set_option maxRecDepth 20000 in
theorem ggX7_person_X6_stayOf : GoodIn wsX7_person wsX6_stayOf := goodIn_r _ [23, 24, 128, 129, 130, 131, 132, 133, 134] (by decide +kernel) (by decide +kernel)
set_option maxRecDepth 20000 in
theorem gX7_person_X6_stayOf : GoodIn wsX7_person (wsV RX7 110 RX6 yX6_stayOf wsX6_stayOf) := goodIn_app (goodIn_of _ (by decide +kernel)) ggX7_person_X6_stayOf
set_option maxRecDepth 20000 in
theorem ggX7_person_X6_rentOf : GoodIn wsX7_person wsX6_rentOf := goodIn_r _ [28, 29, 128, 129, 130, 131, 132, 133, 134] (by decide +kernel) (by decide +kernel)
set_option maxRecDepth 20000 in
theorem gX7_person_X6_rentOf : GoodIn wsX7_person (wsV RX7 113 RX6 yX6_rentOf wsX6_rentOf) := goodIn_app (goodIn_of _ (by decide +kernel)) ggX7_person_X6_rentOf
set_option maxRecDepth 20000 in
theorem ggX7_person_X0_startOf : GoodIn wsX7_person wsX0_startOf := goodIn_r _ [34, 35, 124, 125, 126, 127] (by decide +kernel) (by decide +kernel)
set_option maxRecDepth 20000 in
theorem gX7_person_X0_startOf : GoodIn wsX7_person (wsV RX7 116 RX0 yX0_startOf wsX0_startOf) := goodIn_app (goodIn_of _ (by decide +kernel)) ggX7_person_X0_startOf
set_option maxRecDepth 20000 in
theorem ggX7_person_X0_isRoped : GoodIn wsX7_person wsX0_isRoped := goodIn_r _ [39, 40, 124, 125, 126, 127] (by decide +kernel) (by decide +kernel)
set_option maxRecDepth 20000 in
theorem gX7_person_X0_isRoped : GoodIn wsX7_person (wsV RX7 119 RX0 yX0_isRoped wsX0_isRoped) := goodIn_app (goodIn_of _ (by decide +kernel)) ggX7_person_X0_isRoped
set_option maxRecDepth 20000 in
theorem ggX7_person_X7_firstStood : GoodIn wsX7_person wsX7_firstStood := goodIn_r _ [45, 2, 1, 46, 47, 48, 44, 49, 3, 30, 31, 32, 33, 34, 35, 50, 51, 52, 53, 54, 55, 56, 57, 58, 7, 59, 14, 19, 60, 21, 22, 23, 24, 61, 62, 63, 64, 115, 116, 117, 118, 119, 120, 121, 122, 123, 124, 125, 126, 127, 135, 136, 137, 128, 129, 130, 131, 132, 133, 134] (by decide +kernel) (by decide +kernel)
set_option maxRecDepth 20000 in
theorem gX7_person_X7_firstStood : GoodIn wsX7_person (wsV RX7 122 RX7 yX7_firstStood wsX7_firstStood) := goodIn_app (goodIn_of _ (by decide +kernel)) ggX7_person_X7_firstStood
set_option maxRecDepth 20000 in
theorem ggX7_person_X7_standsNow : GoodIn wsX7_person wsX7_standsNow := goodIn_r _ [49, 3, 2, 30, 31, 32, 33, 34, 35, 50, 51, 52, 53, 54, 55, 56, 57, 58, 7, 59, 14, 19, 60, 21, 22, 23, 24, 61, 44, 62, 63, 115, 116, 117, 118, 119, 120, 121, 122, 123, 124, 125, 126, 127, 135, 136, 137, 128, 129, 130, 131, 132, 133, 134] (by decide +kernel) (by decide +kernel)
set_option maxRecDepth 20000 in
theorem gX7_person_X7_standsNow : GoodIn wsX7_person (wsV RX7 125 RX7 yX7_standsNow wsX7_standsNow) := goodIn_app (goodIn_of _ (by decide +kernel)) ggX7_person_X7_standsNow
set_option maxRecDepth 20000 in
theorem ggX7_person_J13_bitCount_95d88 : GoodIn wsX7_person wsJ13_bitCount_95d88 := goodIn_r _ [68, 69, 70, 71] (by decide +kernel) (by decide +kernel)
set_option maxRecDepth 20000 in
theorem gX7_person_J13_bitCount_95d88 : GoodIn wsX7_person (va_wsS RX7 129 yJ13_bitCount_95d88 wsJ13_bitCount_95d88) := goodIn_app (goodIn_of _ (by decide +kernel)) ggX7_person_J13_bitCount_95d88
set_option maxRecDepth 20000 in
theorem ggX7_person_X1_fine : GoodIn wsX7_person wsX1_fine := goodIn_r _ [75, 76, 77, 78, 53, 79, 80, 81, 31, 32, 33, 34, 35, 82, 51, 52, 54, 55, 56, 57, 58, 7, 59, 14, 19, 60, 21, 22, 23, 24, 61, 44, 62, 63, 83, 84, 85, 86, 87, 88, 89, 90, 91, 92, 93, 94, 95, 96, 97, 98, 99, 11, 12, 13, 100, 66, 67, 68, 69, 70, 71, 101, 102, 103, 104, 29, 105, 106, 107, 108, 109, 110, 111, 112, 113, 37, 38, 39, 40, 135, 136, 137, 124, 125, 126, 127, 128, 129, 130, 131, 132, 133, 134] (by decide +kernel) (by decide +kernel)
set_option maxRecDepth 20000 in
theorem gX7_person_X1_fine : GoodIn wsX7_person (wsV RX7 138 RX1 yX1_fine wsX1_fine) := goodIn_app (goodIn_of _ (by decide +kernel)) ggX7_person_X1_fine
set_option maxRecDepth 20000 in
theorem ggX7_person_X0_landOf : GoodIn wsX7_person wsX0_landOf := goodIn_r _ [97, 98, 124, 125, 126, 127] (by decide +kernel) (by decide +kernel)
set_option maxRecDepth 20000 in
theorem gX7_person_X0_landOf : GoodIn wsX7_person (wsV RX7 142 RX0 yX0_landOf wsX0_landOf) := goodIn_app (goodIn_of _ (by decide +kernel)) ggX7_person_X0_landOf
theorem dX7_person_0 : decode cX7_person 0 = .ok (.aload_n 0, 1) := by decide +kernel
theorem dX7_person_1 : decode cX7_person 1 = .ok (.getfield 19, 3) := by decide +kernel
theorem dX7_person_4 : decode cX7_person 4 = .ok (.iload_n 1, 1) := by decide +kernel
theorem dX7_person_5 : decode cX7_person 5 = .ok (.invokevirtual 100, 3) := by decide +kernel
theorem dX7_person_8 : decode cX7_person 8 = .ok (.ifCond .ne 6, 3) := by decide +kernel
theorem dX7_person_11 : decode cX7_person 11 = .ok (.bipush (-2), 2) := by decide +kernel
theorem dX7_person_13 : decode cX7_person 13 = .ok (.ireturn, 1) := by decide +kernel
theorem dX7_person_14 : decode cX7_person 14 = .ok (.iload_n 2, 1) := by decide +kernel
theorem dX7_person_15 : decode cX7_person 15 = .ok (.tableswitch 158 0 9 #[53, 62, 71, 80, 89, 98, 115, 121, 130, 146], 53) := by decide +kernel
theorem dX7_person_68 : decode cX7_person 68 = .ok (.aload_n 0, 1) := by decide +kernel
theorem dX7_person_69 : decode cX7_person 69 = .ok (.getfield 19, 3) := by decide +kernel
theorem dX7_person_72 : decode cX7_person 72 = .ok (.iload_n 1, 1) := by decide +kernel
theorem dX7_person_73 : decode cX7_person 73 = .ok (.invokevirtual 103, 3) := by decide +kernel
theorem dX7_person_76 : decode cX7_person 76 = .ok (.ireturn, 1) := by decide +kernel
theorem dX7_person_77 : decode cX7_person 77 = .ok (.aload_n 0, 1) := by decide +kernel
theorem dX7_person_78 : decode cX7_person 78 = .ok (.getfield 19, 3) := by decide +kernel
theorem dX7_person_81 : decode cX7_person 81 = .ok (.iload_n 1, 1) := by decide +kernel
theorem dX7_person_82 : decode cX7_person 82 = .ok (.invokevirtual 107, 3) := by decide +kernel
theorem dX7_person_85 : decode cX7_person 85 = .ok (.ireturn, 1) := by decide +kernel
theorem dX7_person_86 : decode cX7_person 86 = .ok (.aload_n 0, 1) := by decide +kernel
theorem dX7_person_87 : decode cX7_person 87 = .ok (.getfield 19, 3) := by decide +kernel
theorem dX7_person_90 : decode cX7_person 90 = .ok (.iload_n 1, 1) := by decide +kernel
theorem dX7_person_91 : decode cX7_person 91 = .ok (.invokevirtual 110, 3) := by decide +kernel
theorem dX7_person_94 : decode cX7_person 94 = .ok (.ireturn, 1) := by decide +kernel
theorem dX7_person_95 : decode cX7_person 95 = .ok (.aload_n 0, 1) := by decide +kernel
theorem dX7_person_96 : decode cX7_person 96 = .ok (.getfield 19, 3) := by decide +kernel
theorem dX7_person_99 : decode cX7_person 99 = .ok (.iload_n 1, 1) := by decide +kernel
theorem dX7_person_100 : decode cX7_person 100 = .ok (.invokevirtual 113, 3) := by decide +kernel
theorem dX7_person_103 : decode cX7_person 103 = .ok (.ireturn, 1) := by decide +kernel
theorem dX7_person_104 : decode cX7_person 104 = .ok (.aload_n 0, 1) := by decide +kernel
theorem dX7_person_105 : decode cX7_person 105 = .ok (.getfield 29, 3) := by decide +kernel
theorem dX7_person_108 : decode cX7_person 108 = .ok (.iload_n 1, 1) := by decide +kernel
theorem dX7_person_109 : decode cX7_person 109 = .ok (.invokevirtual 116, 3) := by decide +kernel
theorem dX7_person_112 : decode cX7_person 112 = .ok (.ireturn, 1) := by decide +kernel
theorem dX7_person_113 : decode cX7_person 113 = .ok (.aload_n 0, 1) := by decide +kernel
theorem dX7_person_114 : decode cX7_person 114 = .ok (.getfield 29, 3) := by decide +kernel
theorem dX7_person_117 : decode cX7_person 117 = .ok (.iload_n 1, 1) := by decide +kernel
theorem dX7_person_118 : decode cX7_person 118 = .ok (.invokevirtual 119, 3) := by decide +kernel
theorem dX7_person_121 : decode cX7_person 121 = .ok (.ifCond .eq 7, 3) := by decide +kernel
theorem dX7_person_124 : decode cX7_person 124 = .ok (.iconst 1, 1) := by decide +kernel
theorem dX7_person_125 : decode cX7_person 125 = .ok (.goto 4, 3) := by decide +kernel
theorem dX7_person_128 : decode cX7_person 128 = .ok (.iconst 0, 1) := by decide +kernel
theorem dX7_person_129 : decode cX7_person 129 = .ok (.ireturn, 1) := by decide +kernel
theorem dX7_person_130 : decode cX7_person 130 = .ok (.aload_n 0, 1) := by decide +kernel
theorem dX7_person_131 : decode cX7_person 131 = .ok (.iload_n 1, 1) := by decide +kernel
theorem dX7_person_132 : decode cX7_person 132 = .ok (.invokevirtual 122, 3) := by decide +kernel
theorem dX7_person_135 : decode cX7_person 135 = .ok (.ireturn, 1) := by decide +kernel
theorem dX7_person_136 : decode cX7_person 136 = .ok (.aload_n 0, 1) := by decide +kernel
theorem dX7_person_137 : decode cX7_person 137 = .ok (.iload_n 1, 1) := by decide +kernel
theorem dX7_person_138 : decode cX7_person 138 = .ok (.invokevirtual 125, 3) := by decide +kernel
theorem dX7_person_141 : decode cX7_person 141 = .ok (.invokestatic 129, 3) := by decide +kernel
theorem dX7_person_144 : decode cX7_person 144 = .ok (.ireturn, 1) := by decide +kernel
theorem dX7_person_145 : decode cX7_person 145 = .ok (.aload_n 0, 1) := by decide +kernel
theorem dX7_person_146 : decode cX7_person 146 = .ok (.getfield 38, 3) := by decide +kernel
theorem dX7_person_149 : decode cX7_person 149 = .ok (.iload_n 1, 1) := by decide +kernel
theorem dX7_person_150 : decode cX7_person 150 = .ok (.aload_n 0, 1) := by decide +kernel
theorem dX7_person_151 : decode cX7_person 151 = .ok (.getfield 29, 3) := by decide +kernel
theorem dX7_person_154 : decode cX7_person 154 = .ok (.getfield 135, 3) := by decide +kernel
theorem dX7_person_157 : decode cX7_person 157 = .ok (.invokevirtual 138, 3) := by decide +kernel
theorem dX7_person_160 : decode cX7_person 160 = .ok (.ireturn, 1) := by decide +kernel
theorem dX7_person_161 : decode cX7_person 161 = .ok (.aload_n 0, 1) := by decide +kernel
theorem dX7_person_162 : decode cX7_person 162 = .ok (.getfield 29, 3) := by decide +kernel
theorem dX7_person_165 : decode cX7_person 165 = .ok (.iload_n 1, 1) := by decide +kernel
theorem dX7_person_166 : decode cX7_person 166 = .ok (.invokevirtual 142, 3) := by decide +kernel
theorem dX7_person_169 : decode cX7_person 169 = .ok (.invokestatic 129, 3) := by decide +kernel
theorem dX7_person_172 : decode cX7_person 172 = .ok (.ireturn, 1) := by decide +kernel
theorem dX7_person_173 : decode cX7_person 173 = .ok (.bipush (-3), 2) := by decide +kernel
theorem dX7_person_175 : decode cX7_person 175 = .ok (.ireturn, 1) := by decide +kernel
set_option maxRecDepth 20000 in
theorem ggX7_second_X7_isWithin : GoodIn wsX7_second wsX7_isWithin := goodIn_r _ [6] (by decide +kernel) (by decide +kernel)
set_option maxRecDepth 20000 in
theorem gX7_second_X7_isWithin : GoodIn wsX7_second (va_wsS RX7 69 yX7_isWithin wsX7_isWithin) := goodIn_app (goodIn_of _ (by decide +kernel)) ggX7_second_X7_isWithin
set_option maxRecDepth 20000 in
theorem ggX7_second_X0_ownerOf : GoodIn wsX7_second wsX0_ownerOf := goodIn_r _ [11, 12, 64, 65, 66, 67] (by decide +kernel) (by decide +kernel)
set_option maxRecDepth 20000 in
theorem gX7_second_X0_ownerOf : GoodIn wsX7_second (wsV RX7 145 RX0 yX0_ownerOf wsX0_ownerOf) := goodIn_app (goodIn_of _ (by decide +kernel)) ggX7_second_X0_ownerOf
set_option maxRecDepth 20000 in
theorem ggX7_second_X7_whoStandIn : GoodIn wsX7_second wsX7_whoStandIn := goodIn_r _ [16, 2, 17, 18, 19, 5, 20, 21, 1, 22, 23, 24, 10, 25, 26, 27, 28, 29, 30, 31, 32, 33, 34, 35, 36, 37, 38, 39, 40, 41, 42, 43, 44, 45, 46, 47, 48, 49, 50, 51, 52, 53, 54, 55, 56, 57, 58, 59, 60, 61, 62, 63, 64, 65, 66, 67, 68, 69, 70] (by decide +kernel) (by decide +kernel)
set_option maxRecDepth 20000 in
theorem gX7_second_X7_whoStandIn : GoodIn wsX7_second (wsV RX7 152 RX7 yX7_whoStandIn wsX7_whoStandIn) := goodIn_app (goodIn_of _ (by decide +kernel)) ggX7_second_X7_whoStandIn
theorem dX7_second_0 : decode cX7_second 0 = .ok (.iload_n 1, 1) := by decide +kernel
theorem dX7_second_1 : decode cX7_second 1 = .ok (.iconst 0, 1) := by decide +kernel
theorem dX7_second_2 : decode cX7_second 2 = .ok (.bipush 59, 2) := by decide +kernel
theorem dX7_second_4 : decode cX7_second 4 = .ok (.invokestatic 69, 3) := by decide +kernel
theorem dX7_second_7 : decode cX7_second 7 = .ok (.ifCond .ne 6, 3) := by decide +kernel
theorem dX7_second_10 : decode cX7_second 10 = .ok (.bipush (-3), 2) := by decide +kernel
theorem dX7_second_12 : decode cX7_second 12 = .ok (.ireturn, 1) := by decide +kernel
theorem dX7_second_13 : decode cX7_second 13 = .ok (.iload_n 2, 1) := by decide +kernel
theorem dX7_second_14 : decode cX7_second 14 = .ok (.tableswitch 63 0 2 #[26, 35, 57], 26) := by decide +kernel
theorem dX7_second_40 : decode cX7_second 40 = .ok (.aload_n 0, 1) := by decide +kernel
theorem dX7_second_41 : decode cX7_second 41 = .ok (.getfield 29, 3) := by decide +kernel
theorem dX7_second_44 : decode cX7_second 44 = .ok (.iload_n 1, 1) := by decide +kernel
theorem dX7_second_45 : decode cX7_second 45 = .ok (.invokevirtual 145, 3) := by decide +kernel
theorem dX7_second_48 : decode cX7_second 48 = .ok (.ireturn, 1) := by decide +kernel
theorem dX7_second_49 : decode cX7_second 49 = .ok (.aload_n 0, 1) := by decide +kernel
theorem dX7_second_50 : decode cX7_second 50 = .ok (.getfield 19, 3) := by decide +kernel
theorem dX7_second_53 : decode cX7_second 53 = .ok (.getfield 148, 3) := by decide +kernel
theorem dX7_second_56 : decode cX7_second 56 = .ok (.lconst 1, 1) := by decide +kernel
theorem dX7_second_57 : decode cX7_second 57 = .ok (.iload_n 1, 1) := by decide +kernel
theorem dX7_second_58 : decode cX7_second 58 = .ok (.lshl, 1) := by decide +kernel
theorem dX7_second_59 : decode cX7_second 59 = .ok (.land, 1) := by decide +kernel
theorem dX7_second_60 : decode cX7_second 60 = .ok (.lconst 0, 1) := by decide +kernel
theorem dX7_second_61 : decode cX7_second 61 = .ok (.lcmp, 1) := by decide +kernel
theorem dX7_second_62 : decode cX7_second 62 = .ok (.ifCond .eq 7, 3) := by decide +kernel
theorem dX7_second_65 : decode cX7_second 65 = .ok (.iconst 1, 1) := by decide +kernel
theorem dX7_second_66 : decode cX7_second 66 = .ok (.goto 4, 3) := by decide +kernel
theorem dX7_second_69 : decode cX7_second 69 = .ok (.iconst 0, 1) := by decide +kernel
theorem dX7_second_70 : decode cX7_second 70 = .ok (.ireturn, 1) := by decide +kernel
theorem dX7_second_71 : decode cX7_second 71 = .ok (.aload_n 0, 1) := by decide +kernel
theorem dX7_second_72 : decode cX7_second 72 = .ok (.iload_n 1, 1) := by decide +kernel
theorem dX7_second_73 : decode cX7_second 73 = .ok (.invokevirtual 152, 3) := by decide +kernel
theorem dX7_second_76 : decode cX7_second 76 = .ok (.ireturn, 1) := by decide +kernel
theorem dX7_second_77 : decode cX7_second 77 = .ok (.bipush (-3), 2) := by decide +kernel
theorem dX7_second_79 : decode cX7_second 79 = .ok (.ireturn, 1) := by decide +kernel
set_option maxRecDepth 20000 in
theorem ggX7_as_X6_knows : GoodIn wsX7_as wsX6_knows := goodIn_r _ [7, 8, 40, 41, 42, 43, 44, 45, 46] (by decide +kernel) (by decide +kernel)
set_option maxRecDepth 20000 in
theorem gX7_as_X6_knows : GoodIn wsX7_as (wsV RX7 100 RX6 yX6_knows wsX6_knows) := goodIn_app (goodIn_of _ (by decide +kernel)) ggX7_as_X6_knows
set_option maxRecDepth 20000 in
theorem ggX7_as_X7_isWithin : GoodIn wsX7_as wsX7_isWithin := goodIn_r _ [12] (by decide +kernel) (by decide +kernel)
set_option maxRecDepth 20000 in
theorem gX7_as_X7_isWithin : GoodIn wsX7_as (va_wsS RX7 69 yX7_isWithin wsX7_isWithin) := goodIn_app (goodIn_of _ (by decide +kernel)) ggX7_as_X7_isWithin
set_option maxRecDepth 20000 in
theorem ggX7_as_X6_kindOf : GoodIn wsX7_as wsX6_kindOf := goodIn_r _ [16, 17, 40, 41, 42, 43, 44, 45, 46] (by decide +kernel) (by decide +kernel)
set_option maxRecDepth 20000 in
theorem gX7_as_X6_kindOf : GoodIn wsX7_as (wsV RX7 103 RX6 yX6_kindOf wsX6_kindOf) := goodIn_app (goodIn_of _ (by decide +kernel)) ggX7_as_X6_kindOf
set_option maxRecDepth 20000 in
theorem ggX7_as_X7_isUnder : GoodIn wsX7_as wsX7_isUnder := goodIn_r _ [20, 2] (by decide +kernel) (by decide +kernel)
set_option maxRecDepth 20000 in
theorem gX7_as_X7_isUnder : GoodIn wsX7_as (va_wsS RX7 159 yX7_isUnder wsX7_isUnder) := goodIn_app (goodIn_of _ (by decide +kernel)) ggX7_as_X7_isUnder
set_option maxRecDepth 20000 in
theorem ggX7_as_X6_walkOf : GoodIn wsX7_as wsX6_walkOf := goodIn_r _ [24, 17, 25, 40, 41, 42, 43, 44, 45, 46] (by decide +kernel) (by decide +kernel)
set_option maxRecDepth 20000 in
theorem gX7_as_X6_walkOf : GoodIn wsX7_as (wsV RX7 163 RX6 yX6_walkOf wsX6_walkOf) := goodIn_app (goodIn_of _ (by decide +kernel)) ggX7_as_X6_walkOf
set_option maxRecDepth 20000 in
theorem ggX7_as_X6_tollOf : GoodIn wsX7_as wsX6_tollOf := goodIn_r _ [29, 17, 30, 40, 41, 42, 43, 44, 45, 46] (by decide +kernel) (by decide +kernel)
set_option maxRecDepth 20000 in
theorem gX7_as_X6_tollOf : GoodIn wsX7_as (wsV RX7 166 RX6 yX6_tollOf wsX6_tollOf) := goodIn_app (goodIn_of _ (by decide +kernel)) ggX7_as_X6_tollOf
theorem dX7_as_0 : decode cX7_as 0 = .ok (.aload_n 0, 1) := by decide +kernel
theorem dX7_as_1 : decode cX7_as 1 = .ok (.getfield 19, 3) := by decide +kernel
theorem dX7_as_4 : decode cX7_as 4 = .ok (.iload_n 1, 1) := by decide +kernel
theorem dX7_as_5 : decode cX7_as 5 = .ok (.invokevirtual 100, 3) := by decide +kernel
theorem dX7_as_8 : decode cX7_as 8 = .ok (.ifCond .ne 6, 3) := by decide +kernel
theorem dX7_as_11 : decode cX7_as 11 = .ok (.bipush (-2), 2) := by decide +kernel
theorem dX7_as_13 : decode cX7_as 13 = .ok (.ireturn, 1) := by decide +kernel
theorem dX7_as_14 : decode cX7_as 14 = .ok (.iload_n 2, 1) := by decide +kernel
theorem dX7_as_15 : decode cX7_as 15 = .ok (.iconst 0, 1) := by decide +kernel
theorem dX7_as_16 : decode cX7_as 16 = .ok (.getstatic 155, 3) := by decide +kernel
theorem dX7_as_19 : decode cX7_as 19 = .ok (.arraylength, 1) := by decide +kernel
theorem dX7_as_20 : decode cX7_as 20 = .ok (.iconst 1, 1) := by decide +kernel
theorem dX7_as_21 : decode cX7_as 21 = .ok (.isub, 1) := by decide +kernel
theorem dX7_as_22 : decode cX7_as 22 = .ok (.invokestatic 69, 3) := by decide +kernel
theorem dX7_as_25 : decode cX7_as 25 = .ok (.ifCond .ne 6, 3) := by decide +kernel
theorem dX7_as_28 : decode cX7_as 28 = .ok (.bipush (-3), 2) := by decide +kernel
theorem dX7_as_30 : decode cX7_as 30 = .ok (.ireturn, 1) := by decide +kernel
theorem dX7_as_31 : decode cX7_as 31 = .ok (.aload_n 0, 1) := by decide +kernel
theorem dX7_as_32 : decode cX7_as 32 = .ok (.getfield 19, 3) := by decide +kernel
theorem dX7_as_35 : decode cX7_as 35 = .ok (.iload_n 1, 1) := by decide +kernel
theorem dX7_as_36 : decode cX7_as 36 = .ok (.invokevirtual 103, 3) := by decide +kernel
theorem dX7_as_39 : decode cX7_as 39 = .ok (.iconst 1, 1) := by decide +kernel
theorem dX7_as_40 : decode cX7_as 40 = .ok (.iadd, 1) := by decide +kernel
theorem dX7_as_41 : decode cX7_as 41 = .ok (.iload_n 2, 1) := by decide +kernel
theorem dX7_as_42 : decode cX7_as 42 = .ok (.invokestatic 159, 3) := by decide +kernel
theorem dX7_as_45 : decode cX7_as 45 = .ok (.ifCond .ne 6, 3) := by decide +kernel
theorem dX7_as_48 : decode cX7_as 48 = .ok (.bipush (-4), 2) := by decide +kernel
theorem dX7_as_50 : decode cX7_as 50 = .ok (.ireturn, 1) := by decide +kernel
theorem dX7_as_51 : decode cX7_as 51 = .ok (.aload_n 0, 1) := by decide +kernel
theorem dX7_as_52 : decode cX7_as 52 = .ok (.getfield 19, 3) := by decide +kernel
theorem dX7_as_55 : decode cX7_as 55 = .ok (.iload_n 1, 1) := by decide +kernel
theorem dX7_as_56 : decode cX7_as 56 = .ok (.invokevirtual 163, 3) := by decide +kernel
theorem dX7_as_59 : decode cX7_as 59 = .ok (.bipush 100, 2) := by decide +kernel
theorem dX7_as_61 : decode cX7_as 61 = .ok (.aload_n 0, 1) := by decide +kernel
theorem dX7_as_62 : decode cX7_as 62 = .ok (.getfield 19, 3) := by decide +kernel
theorem dX7_as_65 : decode cX7_as 65 = .ok (.iload_n 1, 1) := by decide +kernel
theorem dX7_as_66 : decode cX7_as 66 = .ok (.invokevirtual 166, 3) := by decide +kernel
theorem dX7_as_69 : decode cX7_as 69 = .ok (.imul, 1) := by decide +kernel
theorem dX7_as_70 : decode cX7_as 70 = .ok (.iadd, 1) := by decide +kernel
theorem dX7_as_71 : decode cX7_as 71 = .ok (.ireturn, 1) := by decide +kernel
set_option maxRecDepth 20000 in
theorem ggX7_start_X6_knows : GoodIn wsX7_start wsX6_knows := goodIn_r _ [8, 9, 61, 62, 63, 64, 65, 66, 67] (by decide +kernel) (by decide +kernel)
set_option maxRecDepth 20000 in
theorem gX7_start_X6_knows : GoodIn wsX7_start (wsV RX7 100 RX6 yX6_knows wsX6_knows) := goodIn_app (goodIn_of _ (by decide +kernel)) ggX7_start_X6_knows
set_option maxRecDepth 20000 in
theorem ggX7_start_X7_isWithin : GoodIn wsX7_start wsX7_isWithin := goodIn_r _ [13] (by decide +kernel) (by decide +kernel)
set_option maxRecDepth 20000 in
theorem gX7_start_X7_isWithin : GoodIn wsX7_start (va_wsS RX7 69 yX7_isWithin wsX7_isWithin) := goodIn_app (goodIn_of _ (by decide +kernel)) ggX7_start_X7_isWithin
set_option maxRecDepth 20000 in
theorem ggX7_start_X2_record : GoodIn wsX7_start wsX2_record := goodIn_r _ [18, 19, 20, 21, 22, 23, 24, 25, 26, 27, 28, 29, 30, 31, 32, 33, 34, 35, 68, 69, 70, 71, 72, 73, 74, 75, 57, 58, 59, 60] (by decide +kernel) (by decide +kernel)
set_option maxRecDepth 20000 in
theorem gX7_start_X2_record : GoodIn wsX7_start (wsV RX7 169 RX2 yX2_record wsX2_record) := goodIn_app (goodIn_of _ (by decide +kernel)) ggX7_start_X2_record
set_option maxRecDepth 20000 in
theorem ggX7_start_X0_setStart : GoodIn wsX7_start wsX0_setStart := goodIn_r _ [40, 41, 57, 58, 59, 60] (by decide +kernel) (by decide +kernel)
set_option maxRecDepth 20000 in
theorem gX7_start_X0_setStart : GoodIn wsX7_start (wsV RX7 173 RX0 yX0_setStart wsX0_setStart) := goodIn_app (goodIn_of _ (by decide +kernel)) ggX7_start_X0_setStart
set_option maxRecDepth 20000 in
theorem ggX7_start_X6_walkOf : GoodIn wsX7_start wsX6_walkOf := goodIn_r _ [45, 46, 47, 61, 62, 63, 64, 65, 66, 67] (by decide +kernel) (by decide +kernel)
set_option maxRecDepth 20000 in
theorem gX7_start_X6_walkOf : GoodIn wsX7_start (wsV RX7 163 RX6 yX6_walkOf wsX6_walkOf) := goodIn_app (goodIn_of _ (by decide +kernel)) ggX7_start_X6_walkOf
theorem dX7_start_0 : decode cX7_start 0 = .ok (.aload_n 0, 1) := by decide +kernel
theorem dX7_start_1 : decode cX7_start 1 = .ok (.getfield 19, 3) := by decide +kernel
theorem dX7_start_4 : decode cX7_start 4 = .ok (.iload_n 1, 1) := by decide +kernel
theorem dX7_start_5 : decode cX7_start 5 = .ok (.invokevirtual 100, 3) := by decide +kernel
theorem dX7_start_8 : decode cX7_start 8 = .ok (.ifCond .ne 6, 3) := by decide +kernel
theorem dX7_start_11 : decode cX7_start 11 = .ok (.bipush (-2), 2) := by decide +kernel
theorem dX7_start_13 : decode cX7_start 13 = .ok (.ireturn, 1) := by decide +kernel
theorem dX7_start_14 : decode cX7_start 14 = .ok (.iload_n 2, 1) := by decide +kernel
theorem dX7_start_15 : decode cX7_start 15 = .ok (.iconst 0, 1) := by decide +kernel
theorem dX7_start_16 : decode cX7_start 16 = .ok (.bipush 59, 2) := by decide +kernel
theorem dX7_start_18 : decode cX7_start 18 = .ok (.invokestatic 69, 3) := by decide +kernel
theorem dX7_start_21 : decode cX7_start 21 = .ok (.ifCond .ne 6, 3) := by decide +kernel
theorem dX7_start_24 : decode cX7_start 24 = .ok (.bipush (-3), 2) := by decide +kernel
theorem dX7_start_26 : decode cX7_start 26 = .ok (.ireturn, 1) := by decide +kernel
theorem dX7_start_27 : decode cX7_start 27 = .ok (.aload_n 0, 1) := by decide +kernel
theorem dX7_start_28 : decode cX7_start 28 = .ok (.getfield 45, 3) := by decide +kernel
theorem dX7_start_31 : decode cX7_start 31 = .ok (.aload_n 0, 1) := by decide +kernel
theorem dX7_start_32 : decode cX7_start 32 = .ok (.getfield 29, 3) := by decide +kernel
theorem dX7_start_35 : decode cX7_start 35 = .ok (.invokevirtual 169, 3) := by decide +kernel
theorem dX7_start_38 : decode cX7_start 38 = .ok (.aload_n 0, 1) := by decide +kernel
theorem dX7_start_39 : decode cX7_start 39 = .ok (.getfield 29, 3) := by decide +kernel
theorem dX7_start_42 : decode cX7_start 42 = .ok (.iload_n 1, 1) := by decide +kernel
theorem dX7_start_43 : decode cX7_start 43 = .ok (.iload_n 2, 1) := by decide +kernel
theorem dX7_start_44 : decode cX7_start 44 = .ok (.invokevirtual 173, 3) := by decide +kernel
theorem dX7_start_47 : decode cX7_start 47 = .ok (.iload_n 2, 1) := by decide +kernel
theorem dX7_start_48 : decode cX7_start 48 = .ok (.aload_n 0, 1) := by decide +kernel
theorem dX7_start_49 : decode cX7_start 49 = .ok (.getfield 19, 3) := by decide +kernel
theorem dX7_start_52 : decode cX7_start 52 = .ok (.iload_n 1, 1) := by decide +kernel
theorem dX7_start_53 : decode cX7_start 53 = .ok (.invokevirtual 163, 3) := by decide +kernel
theorem dX7_start_56 : decode cX7_start 56 = .ok (.iadd, 1) := by decide +kernel
theorem dX7_start_57 : decode cX7_start 57 = .ok (.aload_n 0, 1) := by decide +kernel
theorem dX7_start_58 : decode cX7_start 58 = .ok (.getfield 29, 3) := by decide +kernel
theorem dX7_start_61 : decode cX7_start 61 = .ok (.getfield 135, 3) := by decide +kernel
theorem dX7_start_64 : decode cX7_start 64 = .ok (.iadd, 1) := by decide +kernel
theorem dX7_start_65 : decode cX7_start 65 = .ok (.ireturn, 1) := by decide +kernel
set_option maxRecDepth 20000 in
theorem ggX7_stays_X6_knows : GoodIn wsX7_stays wsX6_knows := goodIn_r _ [8, 9, 51, 52, 53, 54, 55, 56, 57] (by decide +kernel) (by decide +kernel)
set_option maxRecDepth 20000 in
theorem gX7_stays_X6_knows : GoodIn wsX7_stays (wsV RX7 100 RX6 yX6_knows wsX6_knows) := goodIn_app (goodIn_of _ (by decide +kernel)) ggX7_stays_X6_knows
set_option maxRecDepth 20000 in
theorem ggX7_stays_X0_startOf : GoodIn wsX7_stays wsX0_startOf := goodIn_r _ [14, 15, 58, 59, 60, 61] (by decide +kernel) (by decide +kernel)
set_option maxRecDepth 20000 in
theorem gX7_stays_X0_startOf : GoodIn wsX7_stays (wsV RX7 116 RX0 yX0_startOf wsX0_startOf) := goodIn_app (goodIn_of _ (by decide +kernel)) ggX7_stays_X0_startOf
set_option maxRecDepth 20000 in
theorem ggX7_stays_X2_record : GoodIn wsX7_stays wsX2_record := goodIn_r _ [20, 21, 22, 23, 24, 25, 26, 27, 28, 29, 30, 31, 32, 33, 34, 35, 36, 37, 62, 63, 64, 65, 66, 67, 68, 69, 58, 59, 60, 61] (by decide +kernel) (by decide +kernel)
set_option maxRecDepth 20000 in
theorem gX7_stays_X2_record : GoodIn wsX7_stays (wsV RX7 169 RX2 yX2_record wsX2_record) := goodIn_app (goodIn_of _ (by decide +kernel)) ggX7_stays_X2_record
set_option maxRecDepth 20000 in
theorem ggX7_stays_X0_setStart : GoodIn wsX7_stays wsX0_setStart := goodIn_r _ [41, 15, 58, 59, 60, 61] (by decide +kernel) (by decide +kernel)
set_option maxRecDepth 20000 in
theorem gX7_stays_X0_setStart : GoodIn wsX7_stays (wsV RX7 173 RX0 yX0_setStart wsX0_setStart) := goodIn_app (goodIn_of _ (by decide +kernel)) ggX7_stays_X0_setStart
theorem dX7_stays_0 : decode cX7_stays 0 = .ok (.aload_n 0, 1) := by decide +kernel
theorem dX7_stays_1 : decode cX7_stays 1 = .ok (.getfield 19, 3) := by decide +kernel
theorem dX7_stays_4 : decode cX7_stays 4 = .ok (.iload_n 1, 1) := by decide +kernel
theorem dX7_stays_5 : decode cX7_stays 5 = .ok (.invokevirtual 100, 3) := by decide +kernel
theorem dX7_stays_8 : decode cX7_stays 8 = .ok (.ifCond .ne 6, 3) := by decide +kernel
theorem dX7_stays_11 : decode cX7_stays 11 = .ok (.bipush (-2), 2) := by decide +kernel
theorem dX7_stays_13 : decode cX7_stays 13 = .ok (.ireturn, 1) := by decide +kernel
theorem dX7_stays_14 : decode cX7_stays 14 = .ok (.aload_n 0, 1) := by decide +kernel
theorem dX7_stays_15 : decode cX7_stays 15 = .ok (.getfield 29, 3) := by decide +kernel
theorem dX7_stays_18 : decode cX7_stays 18 = .ok (.iload_n 1, 1) := by decide +kernel
theorem dX7_stays_19 : decode cX7_stays 19 = .ok (.invokevirtual 116, 3) := by decide +kernel
theorem dX7_stays_22 : decode cX7_stays 22 = .ok (.istore_n 2, 1) := by decide +kernel
theorem dX7_stays_23 : decode cX7_stays 23 = .ok (.iload_n 2, 1) := by decide +kernel
theorem dX7_stays_24 : decode cX7_stays 24 = .ok (.iconst (-1), 1) := by decide +kernel
theorem dX7_stays_25 : decode cX7_stays 25 = .ok (.if_icmp .ne 6, 3) := by decide +kernel
theorem dX7_stays_28 : decode cX7_stays 28 = .ok (.bipush (-4), 2) := by decide +kernel
theorem dX7_stays_30 : decode cX7_stays 30 = .ok (.ireturn, 1) := by decide +kernel
theorem dX7_stays_31 : decode cX7_stays 31 = .ok (.aload_n 0, 1) := by decide +kernel
theorem dX7_stays_32 : decode cX7_stays 32 = .ok (.getfield 45, 3) := by decide +kernel
theorem dX7_stays_35 : decode cX7_stays 35 = .ok (.aload_n 0, 1) := by decide +kernel
theorem dX7_stays_36 : decode cX7_stays 36 = .ok (.getfield 29, 3) := by decide +kernel
theorem dX7_stays_39 : decode cX7_stays 39 = .ok (.invokevirtual 169, 3) := by decide +kernel
theorem dX7_stays_42 : decode cX7_stays 42 = .ok (.aload_n 0, 1) := by decide +kernel
theorem dX7_stays_43 : decode cX7_stays 43 = .ok (.getfield 29, 3) := by decide +kernel
theorem dX7_stays_46 : decode cX7_stays 46 = .ok (.iload_n 1, 1) := by decide +kernel
theorem dX7_stays_47 : decode cX7_stays 47 = .ok (.iconst (-1), 1) := by decide +kernel
theorem dX7_stays_48 : decode cX7_stays 48 = .ok (.invokevirtual 173, 3) := by decide +kernel
theorem dX7_stays_51 : decode cX7_stays 51 = .ok (.iload_n 2, 1) := by decide +kernel
theorem dX7_stays_52 : decode cX7_stays 52 = .ok (.ireturn, 1) := by decide +kernel
set_option maxRecDepth 20000 in
theorem ggX7_rope_X6_knows : GoodIn wsX7_rope wsX6_knows := goodIn_r _ [8, 9, 55, 56, 57, 58, 59, 60, 61] (by decide +kernel) (by decide +kernel)
set_option maxRecDepth 20000 in
theorem gX7_rope_X6_knows : GoodIn wsX7_rope (wsV RX7 100 RX6 yX6_knows wsX6_knows) := goodIn_app (goodIn_of _ (by decide +kernel)) ggX7_rope_X6_knows
set_option maxRecDepth 20000 in
theorem ggX7_rope_X7_isWithin : GoodIn wsX7_rope wsX7_isWithin := goodIn_r _ [13] (by decide +kernel) (by decide +kernel)
set_option maxRecDepth 20000 in
theorem gX7_rope_X7_isWithin : GoodIn wsX7_rope (va_wsS RX7 69 yX7_isWithin wsX7_isWithin) := goodIn_app (goodIn_of _ (by decide +kernel)) ggX7_rope_X7_isWithin
set_option maxRecDepth 20000 in
theorem ggX7_rope_X2_record : GoodIn wsX7_rope wsX2_record := goodIn_r _ [18, 19, 20, 21, 22, 23, 24, 25, 26, 27, 28, 29, 30, 31, 32, 33, 34, 35, 62, 63, 64, 65, 66, 67, 68, 69, 70, 71, 72, 73] (by decide +kernel) (by decide +kernel)
set_option maxRecDepth 20000 in
theorem gX7_rope_X2_record : GoodIn wsX7_rope (wsV RX7 169 RX2 yX2_record wsX2_record) := goodIn_app (goodIn_of _ (by decide +kernel)) ggX7_rope_X2_record
set_option maxRecDepth 20000 in
theorem ggX7_rope_X0_isRoped : GoodIn wsX7_rope wsX0_isRoped := goodIn_r _ [40, 41, 70, 71, 72, 73] (by decide +kernel) (by decide +kernel)
set_option maxRecDepth 20000 in
theorem gX7_rope_X0_isRoped : GoodIn wsX7_rope (wsV RX7 119 RX0 yX0_isRoped wsX0_isRoped) := goodIn_app (goodIn_of _ (by decide +kernel)) ggX7_rope_X0_isRoped
set_option maxRecDepth 20000 in
theorem ggX7_rope_X0_setRope : GoodIn wsX7_rope wsX0_setRope := goodIn_r _ [45, 41, 70, 71, 72, 73] (by decide +kernel) (by decide +kernel)
set_option maxRecDepth 20000 in
theorem gX7_rope_X0_setRope : GoodIn wsX7_rope (wsV RX7 177 RX0 yX0_setRope wsX0_setRope) := goodIn_app (goodIn_of _ (by decide +kernel)) ggX7_rope_X0_setRope
theorem dX7_rope_0 : decode cX7_rope 0 = .ok (.aload_n 0, 1) := by decide +kernel
theorem dX7_rope_1 : decode cX7_rope 1 = .ok (.getfield 19, 3) := by decide +kernel
theorem dX7_rope_4 : decode cX7_rope 4 = .ok (.iload_n 1, 1) := by decide +kernel
theorem dX7_rope_5 : decode cX7_rope 5 = .ok (.invokevirtual 100, 3) := by decide +kernel
theorem dX7_rope_8 : decode cX7_rope 8 = .ok (.ifCond .ne 6, 3) := by decide +kernel
theorem dX7_rope_11 : decode cX7_rope 11 = .ok (.bipush (-2), 2) := by decide +kernel
theorem dX7_rope_13 : decode cX7_rope 13 = .ok (.ireturn, 1) := by decide +kernel
theorem dX7_rope_14 : decode cX7_rope 14 = .ok (.iload_n 2, 1) := by decide +kernel
theorem dX7_rope_15 : decode cX7_rope 15 = .ok (.iconst 0, 1) := by decide +kernel
theorem dX7_rope_16 : decode cX7_rope 16 = .ok (.iconst 1, 1) := by decide +kernel
theorem dX7_rope_17 : decode cX7_rope 17 = .ok (.invokestatic 69, 3) := by decide +kernel
theorem dX7_rope_20 : decode cX7_rope 20 = .ok (.ifCond .ne 6, 3) := by decide +kernel
theorem dX7_rope_23 : decode cX7_rope 23 = .ok (.bipush (-3), 2) := by decide +kernel
theorem dX7_rope_25 : decode cX7_rope 25 = .ok (.ireturn, 1) := by decide +kernel
theorem dX7_rope_26 : decode cX7_rope 26 = .ok (.aload_n 0, 1) := by decide +kernel
theorem dX7_rope_27 : decode cX7_rope 27 = .ok (.getfield 45, 3) := by decide +kernel
theorem dX7_rope_30 : decode cX7_rope 30 = .ok (.aload_n 0, 1) := by decide +kernel
theorem dX7_rope_31 : decode cX7_rope 31 = .ok (.getfield 29, 3) := by decide +kernel
theorem dX7_rope_34 : decode cX7_rope 34 = .ok (.invokevirtual 169, 3) := by decide +kernel
theorem dX7_rope_37 : decode cX7_rope 37 = .ok (.aload_n 0, 1) := by decide +kernel
theorem dX7_rope_38 : decode cX7_rope 38 = .ok (.getfield 29, 3) := by decide +kernel
theorem dX7_rope_41 : decode cX7_rope 41 = .ok (.iload_n 1, 1) := by decide +kernel
theorem dX7_rope_42 : decode cX7_rope 42 = .ok (.invokevirtual 119, 3) := by decide +kernel
theorem dX7_rope_45 : decode cX7_rope 45 = .ok (.ifCond .eq 7, 3) := by decide +kernel
theorem dX7_rope_48 : decode cX7_rope 48 = .ok (.iconst 1, 1) := by decide +kernel
theorem dX7_rope_49 : decode cX7_rope 49 = .ok (.goto 4, 3) := by decide +kernel
theorem dX7_rope_52 : decode cX7_rope 52 = .ok (.iconst 0, 1) := by decide +kernel
theorem dX7_rope_53 : decode cX7_rope 53 = .ok (.istore_n 3, 1) := by decide +kernel
theorem dX7_rope_54 : decode cX7_rope 54 = .ok (.aload_n 0, 1) := by decide +kernel
theorem dX7_rope_55 : decode cX7_rope 55 = .ok (.getfield 29, 3) := by decide +kernel
theorem dX7_rope_58 : decode cX7_rope 58 = .ok (.iload_n 1, 1) := by decide +kernel
theorem dX7_rope_59 : decode cX7_rope 59 = .ok (.iload_n 2, 1) := by decide +kernel
theorem dX7_rope_60 : decode cX7_rope 60 = .ok (.iconst 1, 1) := by decide +kernel
theorem dX7_rope_61 : decode cX7_rope 61 = .ok (.if_icmp .ne 7, 3) := by decide +kernel
theorem dX7_rope_64 : decode cX7_rope 64 = .ok (.iconst 1, 1) := by decide +kernel
theorem dX7_rope_65 : decode cX7_rope 65 = .ok (.goto 4, 3) := by decide +kernel
theorem dX7_rope_68 : decode cX7_rope 68 = .ok (.iconst 0, 1) := by decide +kernel
theorem dX7_rope_69 : decode cX7_rope 69 = .ok (.invokevirtual 177, 3) := by decide +kernel
theorem dX7_rope_72 : decode cX7_rope 72 = .ok (.iload_n 3, 1) := by decide +kernel
theorem dX7_rope_73 : decode cX7_rope 73 = .ok (.ireturn, 1) := by decide +kernel
set_option maxRecDepth 20000 in
theorem ggX7_clock_X7_isWithin : GoodIn wsX7_clock wsX7_isWithin := goodIn_r _ [6] (by decide +kernel) (by decide +kernel)
set_option maxRecDepth 20000 in
theorem gX7_clock_X7_isWithin : GoodIn wsX7_clock (va_wsS RX7 69 yX7_isWithin wsX7_isWithin) := goodIn_app (goodIn_of _ (by decide +kernel)) ggX7_clock_X7_isWithin
set_option maxRecDepth 20000 in
theorem ggX7_clock_X2_record : GoodIn wsX7_clock wsX2_record := goodIn_r _ [11, 12, 13, 14, 15, 16, 17, 18, 19, 20, 21, 22, 23, 24, 25, 26, 27, 28, 42, 43, 44, 45, 46, 47, 48, 49, 38, 39, 40, 41] (by decide +kernel) (by decide +kernel)
set_option maxRecDepth 20000 in
theorem gX7_clock_X2_record : GoodIn wsX7_clock (wsV RX7 169 RX2 yX2_record wsX2_record) := goodIn_app (goodIn_of _ (by decide +kernel)) ggX7_clock_X2_record
theorem dX7_clock_0 : decode cX7_clock 0 = .ok (.iload_n 1, 1) := by decide +kernel
theorem dX7_clock_1 : decode cX7_clock 1 = .ok (.iconst 0, 1) := by decide +kernel
theorem dX7_clock_2 : decode cX7_clock 2 = .ok (.bipush 9, 2) := by decide +kernel
theorem dX7_clock_4 : decode cX7_clock 4 = .ok (.invokestatic 69, 3) := by decide +kernel
theorem dX7_clock_7 : decode cX7_clock 7 = .ok (.ifCond .ne 6, 3) := by decide +kernel
theorem dX7_clock_10 : decode cX7_clock 10 = .ok (.bipush (-3), 2) := by decide +kernel
theorem dX7_clock_12 : decode cX7_clock 12 = .ok (.ireturn, 1) := by decide +kernel
theorem dX7_clock_13 : decode cX7_clock 13 = .ok (.aload_n 0, 1) := by decide +kernel
theorem dX7_clock_14 : decode cX7_clock 14 = .ok (.getfield 45, 3) := by decide +kernel
theorem dX7_clock_17 : decode cX7_clock 17 = .ok (.aload_n 0, 1) := by decide +kernel
theorem dX7_clock_18 : decode cX7_clock 18 = .ok (.getfield 29, 3) := by decide +kernel
theorem dX7_clock_21 : decode cX7_clock 21 = .ok (.invokevirtual 169, 3) := by decide +kernel
theorem dX7_clock_24 : decode cX7_clock 24 = .ok (.aload_n 0, 1) := by decide +kernel
theorem dX7_clock_25 : decode cX7_clock 25 = .ok (.getfield 29, 3) := by decide +kernel
theorem dX7_clock_28 : decode cX7_clock 28 = .ok (.getfield 135, 3) := by decide +kernel
theorem dX7_clock_31 : decode cX7_clock 31 = .ok (.istore_n 2, 1) := by decide +kernel
theorem dX7_clock_32 : decode cX7_clock 32 = .ok (.aload_n 0, 1) := by decide +kernel
theorem dX7_clock_33 : decode cX7_clock 33 = .ok (.getfield 29, 3) := by decide +kernel
theorem dX7_clock_36 : decode cX7_clock 36 = .ok (.iload_n 1, 1) := by decide +kernel
theorem dX7_clock_37 : decode cX7_clock 37 = .ok (.putfield 135, 3) := by decide +kernel
theorem dX7_clock_40 : decode cX7_clock 40 = .ok (.iload_n 2, 1) := by decide +kernel
theorem dX7_clock_41 : decode cX7_clock 41 = .ok (.ireturn, 1) := by decide +kernel
set_option maxRecDepth 20000 in
theorem ggX7_halve_X7_areTwo : GoodIn wsX7_halve wsX7_areTwo := goodIn_r _ [7, 8, 9, 10, 11, 12, 13, 14, 58, 59, 60, 61, 62, 63, 64, 65, 66, 67, 68, 69, 70, 71, 72, 73] (by decide +kernel) (by decide +kernel)
set_option maxRecDepth 20000 in
theorem gX7_halve_X7_areTwo : GoodIn wsX7_halve (wsV RX7 181 RX7 yX7_areTwo wsX7_areTwo) := goodIn_app (goodIn_of _ (by decide +kernel)) ggX7_halve_X7_areTwo
set_option maxRecDepth 20000 in
theorem ggX7_halve_X0_landOf : GoodIn wsX7_halve wsX0_landOf := goodIn_r _ [19, 20, 74, 75, 76, 77] (by decide +kernel) (by decide +kernel)
set_option maxRecDepth 20000 in
theorem gX7_halve_X0_landOf : GoodIn wsX7_halve (wsV RX7 142 RX0 yX0_landOf wsX0_landOf) := goodIn_app (goodIn_of _ (by decide +kernel)) ggX7_halve_X0_landOf
set_option maxRecDepth 20000 in
theorem ggX7_halve_J13_bitCount_95d88 : GoodIn wsX7_halve wsJ13_bitCount_95d88 := goodIn_r _ [24, 25, 26, 27] (by decide +kernel) (by decide +kernel)
set_option maxRecDepth 20000 in
theorem gX7_halve_J13_bitCount_95d88 : GoodIn wsX7_halve (va_wsS RX7 129 yJ13_bitCount_95d88 wsJ13_bitCount_95d88) := goodIn_app (goodIn_of _ (by decide +kernel)) ggX7_halve_J13_bitCount_95d88
set_option maxRecDepth 20000 in
theorem ggX7_halve_X2_record : GoodIn wsX7_halve wsX2_record := goodIn_r _ [32, 33, 34, 35, 36, 37, 38, 39, 40, 41, 42, 43, 44, 45, 46, 47, 48, 49, 78, 79, 80, 81, 82, 83, 84, 85, 74, 75, 76, 77] (by decide +kernel) (by decide +kernel)
set_option maxRecDepth 20000 in
theorem gX7_halve_X2_record : GoodIn wsX7_halve (wsV RX7 169 RX2 yX2_record wsX2_record) := goodIn_app (goodIn_of _ (by decide +kernel)) ggX7_halve_X2_record
set_option maxRecDepth 20000 in
theorem ggX7_halve_X7_eachOther : GoodIn wsX7_halve wsX7_eachOther := goodIn_r _ [52] (by decide +kernel) (by decide +kernel)
set_option maxRecDepth 20000 in
theorem gX7_halve_X7_eachOther : GoodIn wsX7_halve (va_wsS RX7 184 yX7_eachOther wsX7_eachOther) := goodIn_app (goodIn_of _ (by decide +kernel)) ggX7_halve_X7_eachOther
set_option maxRecDepth 20000 in
theorem ggX7_halve_X0_give : GoodIn wsX7_halve wsX0_give := goodIn_r _ [56, 20, 57, 74, 75, 76, 77] (by decide +kernel) (by decide +kernel)
set_option maxRecDepth 20000 in
theorem gX7_halve_X0_give : GoodIn wsX7_halve (wsV RX7 188 RX0 yX0_give wsX0_give) := goodIn_app (goodIn_of _ (by decide +kernel)) ggX7_halve_X0_give
theorem dX7_halve_0 : decode cX7_halve 0 = .ok (.aload_n 0, 1) := by decide +kernel
theorem dX7_halve_1 : decode cX7_halve 1 = .ok (.iload_n 1, 1) := by decide +kernel
theorem dX7_halve_2 : decode cX7_halve 2 = .ok (.iload_n 2, 1) := by decide +kernel
theorem dX7_halve_3 : decode cX7_halve 3 = .ok (.invokevirtual 181, 3) := by decide +kernel
theorem dX7_halve_6 : decode cX7_halve 6 = .ok (.ifCond .ne 6, 3) := by decide +kernel
theorem dX7_halve_9 : decode cX7_halve 9 = .ok (.bipush (-2), 2) := by decide +kernel
theorem dX7_halve_11 : decode cX7_halve 11 = .ok (.ireturn, 1) := by decide +kernel
theorem dX7_halve_12 : decode cX7_halve 12 = .ok (.aload_n 0, 1) := by decide +kernel
theorem dX7_halve_13 : decode cX7_halve 13 = .ok (.getfield 29, 3) := by decide +kernel
theorem dX7_halve_16 : decode cX7_halve 16 = .ok (.iload_n 1, 1) := by decide +kernel
theorem dX7_halve_17 : decode cX7_halve 17 = .ok (.invokevirtual 142, 3) := by decide +kernel
theorem dX7_halve_20 : decode cX7_halve 20 = .ok (.lstore_n 3, 1) := by decide +kernel
theorem dX7_halve_21 : decode cX7_halve 21 = .ok (.lload_n 3, 1) := by decide +kernel
theorem dX7_halve_22 : decode cX7_halve 22 = .ok (.invokestatic 129, 3) := by decide +kernel
theorem dX7_halve_25 : decode cX7_halve 25 = .ok (.iconst 2, 1) := by decide +kernel
theorem dX7_halve_26 : decode cX7_halve 26 = .ok (.if_icmp .ge 6, 3) := by decide +kernel
theorem dX7_halve_29 : decode cX7_halve 29 = .ok (.bipush (-4), 2) := by decide +kernel
theorem dX7_halve_31 : decode cX7_halve 31 = .ok (.ireturn, 1) := by decide +kernel
theorem dX7_halve_32 : decode cX7_halve 32 = .ok (.aload_n 0, 1) := by decide +kernel
theorem dX7_halve_33 : decode cX7_halve 33 = .ok (.getfield 45, 3) := by decide +kernel
theorem dX7_halve_36 : decode cX7_halve 36 = .ok (.aload_n 0, 1) := by decide +kernel
theorem dX7_halve_37 : decode cX7_halve 37 = .ok (.getfield 29, 3) := by decide +kernel
theorem dX7_halve_40 : decode cX7_halve 40 = .ok (.invokevirtual 169, 3) := by decide +kernel
theorem dX7_halve_43 : decode cX7_halve 43 = .ok (.lload_n 3, 1) := by decide +kernel
theorem dX7_halve_44 : decode cX7_halve 44 = .ok (.invokestatic 184, 3) := by decide +kernel
theorem dX7_halve_47 : decode cX7_halve 47 = .ok (.lstore 5, 2) := by decide +kernel
theorem dX7_halve_49 : decode cX7_halve 49 = .ok (.aload_n 0, 1) := by decide +kernel
theorem dX7_halve_50 : decode cX7_halve 50 = .ok (.getfield 29, 3) := by decide +kernel
theorem dX7_halve_53 : decode cX7_halve 53 = .ok (.lload 5, 2) := by decide +kernel
theorem dX7_halve_55 : decode cX7_halve 55 = .ok (.iload_n 2, 1) := by decide +kernel
theorem dX7_halve_56 : decode cX7_halve 56 = .ok (.invokevirtual 188, 3) := by decide +kernel
theorem dX7_halve_59 : decode cX7_halve 59 = .ok (.lload 5, 2) := by decide +kernel
theorem dX7_halve_61 : decode cX7_halve 61 = .ok (.invokestatic 129, 3) := by decide +kernel
theorem dX7_halve_64 : decode cX7_halve 64 = .ok (.ireturn, 1) := by decide +kernel
set_option maxRecDepth 20000 in
theorem ggX7_sell_X6_knows : GoodIn wsX7_sell wsX6_knows := goodIn_r _ [8, 9, 56, 57, 58, 59, 60, 61, 62] (by decide +kernel) (by decide +kernel)
set_option maxRecDepth 20000 in
theorem gX7_sell_X6_knows : GoodIn wsX7_sell (wsV RX7 100 RX6 yX6_knows wsX6_knows) := goodIn_app (goodIn_of _ (by decide +kernel)) ggX7_sell_X6_knows
set_option maxRecDepth 20000 in
theorem ggX7_sell_X7_isWithin : GoodIn wsX7_sell wsX7_isWithin := goodIn_r _ [13] (by decide +kernel) (by decide +kernel)
set_option maxRecDepth 20000 in
theorem gX7_sell_X7_isWithin : GoodIn wsX7_sell (va_wsS RX7 69 yX7_isWithin wsX7_isWithin) := goodIn_app (goodIn_of _ (by decide +kernel)) ggX7_sell_X7_isWithin
set_option maxRecDepth 20000 in
theorem ggX7_sell_X0_ownerOf : GoodIn wsX7_sell wsX0_ownerOf := goodIn_r _ [18, 19, 63, 64, 65, 66] (by decide +kernel) (by decide +kernel)
set_option maxRecDepth 20000 in
theorem gX7_sell_X0_ownerOf : GoodIn wsX7_sell (wsV RX7 145 RX0 yX0_ownerOf wsX0_ownerOf) := goodIn_app (goodIn_of _ (by decide +kernel)) ggX7_sell_X0_ownerOf
set_option maxRecDepth 20000 in
theorem ggX7_sell_X2_record : GoodIn wsX7_sell wsX2_record := goodIn_r _ [24, 25, 26, 27, 28, 29, 30, 31, 32, 33, 34, 35, 36, 37, 38, 39, 40, 41, 67, 68, 69, 70, 71, 72, 73, 74, 63, 64, 65, 66] (by decide +kernel) (by decide +kernel)
set_option maxRecDepth 20000 in
theorem gX7_sell_X2_record : GoodIn wsX7_sell (wsV RX7 169 RX2 yX2_record wsX2_record) := goodIn_app (goodIn_of _ (by decide +kernel)) ggX7_sell_X2_record
set_option maxRecDepth 20000 in
theorem ggX7_sell_X0_give : GoodIn wsX7_sell wsX0_give := goodIn_r _ [45, 19, 46, 63, 64, 65, 66] (by decide +kernel) (by decide +kernel)
