set_option maxRecDepth 20000 in
theorem gX7_sell_X0_give : GoodIn wsX7_sell (wsV RX7 188 RX0 yX0_give wsX0_give) := goodIn_app (goodIn_of _ (by decide +kernel)) ggX7_sell_X0_give
theorem dX7_sell_0 : decode cX7_sell 0 = .ok (.iload_n 2, 1) := by decide +kernel
theorem dX7_sell_1 : decode cX7_sell 1 = .ok (.iconst (-1), 1) := by decide +kernel
theorem dX7_sell_2 : decode cX7_sell 2 = .ok (.if_icmp .eq 17, 3) := by decide +kernel
theorem dX7_sell_5 : decode cX7_sell 5 = .ok (.aload_n 0, 1) := by decide +kernel
theorem dX7_sell_6 : decode cX7_sell 6 = .ok (.getfield 19, 3) := by decide +kernel
theorem dX7_sell_9 : decode cX7_sell 9 = .ok (.iload_n 2, 1) := by decide +kernel
theorem dX7_sell_10 : decode cX7_sell 10 = .ok (.invokevirtual 100, 3) := by decide +kernel
theorem dX7_sell_13 : decode cX7_sell 13 = .ok (.ifCond .ne 6, 3) := by decide +kernel
theorem dX7_sell_16 : decode cX7_sell 16 = .ok (.bipush (-2), 2) := by decide +kernel
theorem dX7_sell_18 : decode cX7_sell 18 = .ok (.ireturn, 1) := by decide +kernel
theorem dX7_sell_19 : decode cX7_sell 19 = .ok (.iload_n 1, 1) := by decide +kernel
theorem dX7_sell_20 : decode cX7_sell 20 = .ok (.iconst 0, 1) := by decide +kernel
theorem dX7_sell_21 : decode cX7_sell 21 = .ok (.bipush 59, 2) := by decide +kernel
theorem dX7_sell_23 : decode cX7_sell 23 = .ok (.invokestatic 69, 3) := by decide +kernel
theorem dX7_sell_26 : decode cX7_sell 26 = .ok (.ifCond .ne 6, 3) := by decide +kernel
theorem dX7_sell_29 : decode cX7_sell 29 = .ok (.bipush (-3), 2) := by decide +kernel
theorem dX7_sell_31 : decode cX7_sell 31 = .ok (.ireturn, 1) := by decide +kernel
theorem dX7_sell_32 : decode cX7_sell 32 = .ok (.aload_n 0, 1) := by decide +kernel
theorem dX7_sell_33 : decode cX7_sell 33 = .ok (.getfield 29, 3) := by decide +kernel
theorem dX7_sell_36 : decode cX7_sell 36 = .ok (.iload_n 1, 1) := by decide +kernel
theorem dX7_sell_37 : decode cX7_sell 37 = .ok (.invokevirtual 145, 3) := by decide +kernel
theorem dX7_sell_40 : decode cX7_sell 40 = .ok (.istore_n 3, 1) := by decide +kernel
theorem dX7_sell_41 : decode cX7_sell 41 = .ok (.iload_n 3, 1) := by decide +kernel
theorem dX7_sell_42 : decode cX7_sell 42 = .ok (.iload_n 2, 1) := by decide +kernel
theorem dX7_sell_43 : decode cX7_sell 43 = .ok (.if_icmp .ne 6, 3) := by decide +kernel
theorem dX7_sell_46 : decode cX7_sell 46 = .ok (.bipush (-4), 2) := by decide +kernel
theorem dX7_sell_48 : decode cX7_sell 48 = .ok (.ireturn, 1) := by decide +kernel
theorem dX7_sell_49 : decode cX7_sell 49 = .ok (.aload_n 0, 1) := by decide +kernel
theorem dX7_sell_50 : decode cX7_sell 50 = .ok (.getfield 45, 3) := by decide +kernel
theorem dX7_sell_53 : decode cX7_sell 53 = .ok (.aload_n 0, 1) := by decide +kernel
theorem dX7_sell_54 : decode cX7_sell 54 = .ok (.getfield 29, 3) := by decide +kernel
theorem dX7_sell_57 : decode cX7_sell 57 = .ok (.invokevirtual 169, 3) := by decide +kernel
theorem dX7_sell_60 : decode cX7_sell 60 = .ok (.aload_n 0, 1) := by decide +kernel
theorem dX7_sell_61 : decode cX7_sell 61 = .ok (.getfield 29, 3) := by decide +kernel
theorem dX7_sell_64 : decode cX7_sell 64 = .ok (.lconst 1, 1) := by decide +kernel
theorem dX7_sell_65 : decode cX7_sell 65 = .ok (.iload_n 1, 1) := by decide +kernel
theorem dX7_sell_66 : decode cX7_sell 66 = .ok (.lshl, 1) := by decide +kernel
theorem dX7_sell_67 : decode cX7_sell 67 = .ok (.iload_n 2, 1) := by decide +kernel
theorem dX7_sell_68 : decode cX7_sell 68 = .ok (.invokevirtual 188, 3) := by decide +kernel
theorem dX7_sell_71 : decode cX7_sell 71 = .ok (.iload_n 3, 1) := by decide +kernel
theorem dX7_sell_72 : decode cX7_sell 72 = .ok (.ireturn, 1) := by decide +kernel
set_option maxRecDepth 20000 in
theorem ggX7_undo_X2_takeBack : GoodIn wsX7_undo wsX2_takeBack := goodIn_r _ [7, 8, 9, 10, 11, 12, 13, 14, 15, 16, 17, 18, 19, 20, 34, 35, 36, 37, 38, 39, 40, 41, 42, 43, 44, 45] (by decide +kernel) (by decide +kernel)
set_option maxRecDepth 20000 in
theorem gX7_undo_X2_takeBack : GoodIn wsX7_undo (wsV RX7 192 RX2 yX2_takeBack wsX2_takeBack) := goodIn_app (goodIn_of _ (by decide +kernel)) ggX7_undo_X2_takeBack
set_option maxRecDepth 20000 in
theorem ggX7_undo_X2_size : GoodIn wsX7_undo wsX2_size := goodIn_r _ [24, 8, 34, 35, 36] (by decide +kernel) (by decide +kernel)
set_option maxRecDepth 20000 in
theorem gX7_undo_X2_size : GoodIn wsX7_undo (wsV RX7 196 RX2 yX2_size wsX2_size) := goodIn_app (goodIn_of _ (by decide +kernel)) ggX7_undo_X2_size
theorem dX7_undo_0 : decode cX7_undo 0 = .ok (.aload_n 0, 1) := by decide +kernel
theorem dX7_undo_1 : decode cX7_undo 1 = .ok (.getfield 45, 3) := by decide +kernel
theorem dX7_undo_4 : decode cX7_undo 4 = .ok (.aload_n 0, 1) := by decide +kernel
theorem dX7_undo_5 : decode cX7_undo 5 = .ok (.getfield 29, 3) := by decide +kernel
theorem dX7_undo_8 : decode cX7_undo 8 = .ok (.invokevirtual 192, 3) := by decide +kernel
theorem dX7_undo_11 : decode cX7_undo 11 = .ok (.ifCond .eq 13, 3) := by decide +kernel
theorem dX7_undo_14 : decode cX7_undo 14 = .ok (.aload_n 0, 1) := by decide +kernel
theorem dX7_undo_15 : decode cX7_undo 15 = .ok (.getfield 45, 3) := by decide +kernel
theorem dX7_undo_18 : decode cX7_undo 18 = .ok (.invokevirtual 196, 3) := by decide +kernel
theorem dX7_undo_21 : decode cX7_undo 21 = .ok (.goto 5, 3) := by decide +kernel
theorem dX7_undo_24 : decode cX7_undo 24 = .ok (.bipush (-4), 2) := by decide +kernel
theorem dX7_undo_26 : decode cX7_undo 26 = .ok (.ireturn, 1) := by decide +kernel
set_option maxRecDepth 20000 in
theorem ggX7_keep_X7_isWithin : GoodIn wsX7_keep wsX7_isWithin := goodIn_r _ [7] (by decide +kernel) (by decide +kernel)
set_option maxRecDepth 20000 in
theorem gX7_keep_X7_isWithin : GoodIn wsX7_keep (va_wsS RX7 69 yX7_isWithin wsX7_isWithin) := goodIn_app (goodIn_of _ (by decide +kernel)) ggX7_keep_X7_isWithin
set_option maxRecDepth 20000 in
theorem ggX7_keep_X3_put : GoodIn wsX7_keep wsX3_put := goodIn_r _ [12, 13, 14, 15, 16, 17, 31, 32, 33, 34, 35, 27, 28, 29, 30] (by decide +kernel) (by decide +kernel)
set_option maxRecDepth 20000 in
theorem gX7_keep_X3_put : GoodIn wsX7_keep (wsV RX7 197 RX3 yX3_put wsX3_put) := goodIn_app (goodIn_of _ (by decide +kernel)) ggX7_keep_X3_put
theorem dX7_keep_0 : decode cX7_keep 0 = .ok (.iload_n 1, 1) := by decide +kernel
theorem dX7_keep_1 : decode cX7_keep 1 = .ok (.iconst 0, 1) := by decide +kernel
theorem dX7_keep_2 : decode cX7_keep 2 = .ok (.iconst 1, 1) := by decide +kernel
theorem dX7_keep_3 : decode cX7_keep 3 = .ok (.invokestatic 69, 3) := by decide +kernel
theorem dX7_keep_6 : decode cX7_keep 6 = .ok (.ifCond .ne 6, 3) := by decide +kernel
theorem dX7_keep_9 : decode cX7_keep 9 = .ok (.bipush (-2), 2) := by decide +kernel
theorem dX7_keep_11 : decode cX7_keep 11 = .ok (.ireturn, 1) := by decide +kernel
theorem dX7_keep_12 : decode cX7_keep 12 = .ok (.aload_n 0, 1) := by decide +kernel
theorem dX7_keep_13 : decode cX7_keep 13 = .ok (.getfield 54, 3) := by decide +kernel
theorem dX7_keep_16 : decode cX7_keep 16 = .ok (.iload_n 1, 1) := by decide +kernel
theorem dX7_keep_17 : decode cX7_keep 17 = .ok (.aload_n 0, 1) := by decide +kernel
theorem dX7_keep_18 : decode cX7_keep 18 = .ok (.getfield 29, 3) := by decide +kernel
theorem dX7_keep_21 : decode cX7_keep 21 = .ok (.invokevirtual 197, 3) := by decide +kernel
theorem dX7_keep_24 : decode cX7_keep 24 = .ok (.aload_n 0, 1) := by decide +kernel
theorem dX7_keep_25 : decode cX7_keep 25 = .ok (.dup, 1) := by decide +kernel
theorem dX7_keep_26 : decode cX7_keep 26 = .ok (.getfield 65, 3) := by decide +kernel
theorem dX7_keep_29 : decode cX7_keep 29 = .ok (.iconst 1, 1) := by decide +kernel
theorem dX7_keep_30 : decode cX7_keep 30 = .ok (.iload_n 1, 1) := by decide +kernel
theorem dX7_keep_31 : decode cX7_keep 31 = .ok (.ishl, 1) := by decide +kernel
theorem dX7_keep_32 : decode cX7_keep 32 = .ok (.ior, 1) := by decide +kernel
theorem dX7_keep_33 : decode cX7_keep 33 = .ok (.putfield 65, 3) := by decide +kernel
theorem dX7_keep_36 : decode cX7_keep 36 = .ok (.aload_n 0, 1) := by decide +kernel
theorem dX7_keep_37 : decode cX7_keep 37 = .ok (.getfield 29, 3) := by decide +kernel
theorem dX7_keep_40 : decode cX7_keep 40 = .ok (.getfield 135, 3) := by decide +kernel
theorem dX7_keep_43 : decode cX7_keep 43 = .ok (.ireturn, 1) := by decide +kernel
set_option maxRecDepth 20000 in
theorem ggX7_back_X7_isWithin : GoodIn wsX7_back wsX7_isWithin := goodIn_r _ [8] (by decide +kernel) (by decide +kernel)
set_option maxRecDepth 20000 in
theorem gX7_back_X7_isWithin : GoodIn wsX7_back (va_wsS RX7 69 yX7_isWithin wsX7_isWithin) := goodIn_app (goodIn_of _ (by decide +kernel)) ggX7_back_X7_isWithin
set_option maxRecDepth 20000 in
theorem ggX7_back_X3_fetch : GoodIn wsX7_back wsX3_fetch := goodIn_r _ [13, 14, 15, 16, 17, 18, 38, 39, 40, 41, 42, 34, 35, 36, 37] (by decide +kernel) (by decide +kernel)
set_option maxRecDepth 20000 in
theorem gX7_back_X3_fetch : GoodIn wsX7_back (wsV RX7 201 RX3 yX3_fetch wsX3_fetch) := goodIn_app (goodIn_of _ (by decide +kernel)) ggX7_back_X3_fetch
set_option maxRecDepth 20000 in
theorem ggX7_back_X2_empty : GoodIn wsX7_back wsX2_empty := goodIn_r _ [23, 24, 43, 44, 45] (by decide +kernel) (by decide +kernel)
set_option maxRecDepth 20000 in
theorem gX7_back_X2_empty : GoodIn wsX7_back (wsV RX7 95 RX2 yX2_empty wsX2_empty) := goodIn_app (goodIn_of _ (by decide +kernel)) ggX7_back_X2_empty
theorem dX7_back_0 : decode cX7_back 0 = .ok (.iload_n 1, 1) := by decide +kernel
theorem dX7_back_1 : decode cX7_back 1 = .ok (.iconst 0, 1) := by decide +kernel
theorem dX7_back_2 : decode cX7_back 2 = .ok (.iconst 1, 1) := by decide +kernel
theorem dX7_back_3 : decode cX7_back 3 = .ok (.invokestatic 69, 3) := by decide +kernel
theorem dX7_back_6 : decode cX7_back 6 = .ok (.ifCond .ne 6, 3) := by decide +kernel
theorem dX7_back_9 : decode cX7_back 9 = .ok (.bipush (-2), 2) := by decide +kernel
theorem dX7_back_11 : decode cX7_back 11 = .ok (.ireturn, 1) := by decide +kernel
theorem dX7_back_12 : decode cX7_back 12 = .ok (.aload_n 0, 1) := by decide +kernel
theorem dX7_back_13 : decode cX7_back 13 = .ok (.getfield 65, 3) := by decide +kernel
theorem dX7_back_16 : decode cX7_back 16 = .ok (.iconst 1, 1) := by decide +kernel
theorem dX7_back_17 : decode cX7_back 17 = .ok (.iload_n 1, 1) := by decide +kernel
theorem dX7_back_18 : decode cX7_back 18 = .ok (.ishl, 1) := by decide +kernel
theorem dX7_back_19 : decode cX7_back 19 = .ok (.iand, 1) := by decide +kernel
theorem dX7_back_20 : decode cX7_back 20 = .ok (.ifCond .ne 6, 3) := by decide +kernel
theorem dX7_back_23 : decode cX7_back 23 = .ok (.bipush (-4), 2) := by decide +kernel
theorem dX7_back_25 : decode cX7_back 25 = .ok (.ireturn, 1) := by decide +kernel
theorem dX7_back_26 : decode cX7_back 26 = .ok (.aload_n 0, 1) := by decide +kernel
theorem dX7_back_27 : decode cX7_back 27 = .ok (.getfield 54, 3) := by decide +kernel
theorem dX7_back_30 : decode cX7_back 30 = .ok (.iload_n 1, 1) := by decide +kernel
theorem dX7_back_31 : decode cX7_back 31 = .ok (.aload_n 0, 1) := by decide +kernel
theorem dX7_back_32 : decode cX7_back 32 = .ok (.getfield 29, 3) := by decide +kernel
theorem dX7_back_35 : decode cX7_back 35 = .ok (.invokevirtual 201, 3) := by decide +kernel
theorem dX7_back_38 : decode cX7_back 38 = .ok (.aload_n 0, 1) := by decide +kernel
theorem dX7_back_39 : decode cX7_back 39 = .ok (.getfield 45, 3) := by decide +kernel
theorem dX7_back_42 : decode cX7_back 42 = .ok (.invokevirtual 95, 3) := by decide +kernel
theorem dX7_back_45 : decode cX7_back 45 = .ok (.aload_n 0, 1) := by decide +kernel
theorem dX7_back_46 : decode cX7_back 46 = .ok (.getfield 29, 3) := by decide +kernel
theorem dX7_back_49 : decode cX7_back 49 = .ok (.getfield 135, 3) := by decide +kernel
theorem dX7_back_52 : decode cX7_back 52 = .ok (.ireturn, 1) := by decide +kernel
set_option maxRecDepth 20000 in
theorem ggX7_best_X6_knows : GoodIn wsX7_best wsX6_knows := goodIn_r _ [7, 8, 103, 104, 105, 106, 107, 108, 109] (by decide +kernel) (by decide +kernel)
set_option maxRecDepth 20000 in
theorem gX7_best_X6_knows : GoodIn wsX7_best (wsV RX7 100 RX6 yX6_knows wsX6_knows) := goodIn_app (goodIn_of _ (by decide +kernel)) ggX7_best_X6_knows
set_option maxRecDepth 20000 in
theorem ggX7_best_X7_isWithin : GoodIn wsX7_best wsX7_isWithin := goodIn_r _ [12] (by decide +kernel) (by decide +kernel)
set_option maxRecDepth 20000 in
theorem gX7_best_X7_isWithin : GoodIn wsX7_best (va_wsS RX7 69 yX7_isWithin wsX7_isWithin) := goodIn_app (goodIn_of _ (by decide +kernel)) ggX7_best_X7_isWithin
set_option maxRecDepth 20000 in
theorem ggX7_best_X1_bestStart : GoodIn wsX7_best wsX1_bestStart := goodIn_r _ [17, 18, 19, 20, 21, 22, 6, 23, 24, 25, 26, 27, 28, 29, 30, 31, 32, 33, 16, 34, 35, 36, 37, 38, 39, 11, 40, 41, 42, 43, 44, 45, 46, 47, 48, 49, 50, 51, 52, 53, 54, 55, 56, 57, 58, 59, 60, 61, 62, 63, 64, 65, 66, 67, 68, 69, 70, 71, 72, 73, 74, 75, 76, 77, 78, 79, 80, 81, 82, 83, 84, 85, 86, 87, 88, 89, 90, 91, 92, 110, 111, 112, 113, 114, 115, 116, 103, 104, 105, 106, 107, 108, 109] (by decide +kernel) (by decide +kernel)
set_option maxRecDepth 20000 in
theorem gX7_best_X1_bestStart : GoodIn wsX7_best (wsV RX7 204 RX1 yX1_bestStart wsX1_bestStart) := goodIn_app (goodIn_of _ (by decide +kernel)) ggX7_best_X1_bestStart
set_option maxRecDepth 20000 in
theorem ggX7_best_X1_fineFrom : GoodIn wsX7_best wsX1_fineFrom := goodIn_r _ [34, 19, 35, 36, 37, 16, 38, 18, 20, 21, 22, 6, 23, 24, 25, 26, 27, 28, 29, 30, 39, 11, 40, 41, 42, 43, 44, 45, 46, 47, 48, 49, 50, 51, 52, 53, 54, 55, 56, 57, 58, 59, 60, 61, 62, 63, 64, 65, 66, 67, 68, 69, 70, 71, 72, 73, 74, 75, 76, 77, 78, 79, 80, 81, 82, 83, 84, 85, 86, 87, 88, 89, 90, 91, 92, 110, 111, 112, 113, 114, 115, 116, 103, 104, 105, 106, 107, 108, 109] (by decide +kernel) (by decide +kernel)
set_option maxRecDepth 20000 in
theorem gX7_best_X1_fineFrom : GoodIn wsX7_best (wsV RX7 207 RX1 yX1_fineFrom wsX1_fineFrom) := goodIn_app (goodIn_of _ (by decide +kernel)) ggX7_best_X1_fineFrom
theorem dX7_best_0 : decode cX7_best 0 = .ok (.aload_n 0, 1) := by decide +kernel
theorem dX7_best_1 : decode cX7_best 1 = .ok (.getfield 19, 3) := by decide +kernel
theorem dX7_best_4 : decode cX7_best 4 = .ok (.iload_n 1, 1) := by decide +kernel
theorem dX7_best_5 : decode cX7_best 5 = .ok (.invokevirtual 100, 3) := by decide +kernel
theorem dX7_best_8 : decode cX7_best 8 = .ok (.ifCond .ne 6, 3) := by decide +kernel
theorem dX7_best_11 : decode cX7_best 11 = .ok (.bipush (-2), 2) := by decide +kernel
theorem dX7_best_13 : decode cX7_best 13 = .ok (.ireturn, 1) := by decide +kernel
theorem dX7_best_14 : decode cX7_best 14 = .ok (.iload_n 2, 1) := by decide +kernel
theorem dX7_best_15 : decode cX7_best 15 = .ok (.iconst 0, 1) := by decide +kernel
theorem dX7_best_16 : decode cX7_best 16 = .ok (.iconst 1, 1) := by decide +kernel
theorem dX7_best_17 : decode cX7_best 17 = .ok (.invokestatic 69, 3) := by decide +kernel
theorem dX7_best_20 : decode cX7_best 20 = .ok (.ifCond .ne 6, 3) := by decide +kernel
theorem dX7_best_23 : decode cX7_best 23 = .ok (.bipush (-3), 2) := by decide +kernel
theorem dX7_best_25 : decode cX7_best 25 = .ok (.ireturn, 1) := by decide +kernel
theorem dX7_best_26 : decode cX7_best 26 = .ok (.aload_n 0, 1) := by decide +kernel
theorem dX7_best_27 : decode cX7_best 27 = .ok (.getfield 38, 3) := by decide +kernel
theorem dX7_best_30 : decode cX7_best 30 = .ok (.iload_n 1, 1) := by decide +kernel
theorem dX7_best_31 : decode cX7_best 31 = .ok (.invokevirtual 204, 3) := by decide +kernel
theorem dX7_best_34 : decode cX7_best 34 = .ok (.istore_n 3, 1) := by decide +kernel
theorem dX7_best_35 : decode cX7_best 35 = .ok (.iload_n 3, 1) := by decide +kernel
theorem dX7_best_36 : decode cX7_best 36 = .ok (.iconst (-1), 1) := by decide +kernel
theorem dX7_best_37 : decode cX7_best 37 = .ok (.if_icmp .eq 7, 3) := by decide +kernel
theorem dX7_best_40 : decode cX7_best 40 = .ok (.iload_n 2, 1) := by decide +kernel
theorem dX7_best_41 : decode cX7_best 41 = .ok (.ifCond .ne 5, 3) := by decide +kernel
theorem dX7_best_44 : decode cX7_best 44 = .ok (.iload_n 3, 1) := by decide +kernel
theorem dX7_best_45 : decode cX7_best 45 = .ok (.ireturn, 1) := by decide +kernel
theorem dX7_best_46 : decode cX7_best 46 = .ok (.aload_n 0, 1) := by decide +kernel
theorem dX7_best_47 : decode cX7_best 47 = .ok (.getfield 38, 3) := by decide +kernel
theorem dX7_best_50 : decode cX7_best 50 = .ok (.iload_n 1, 1) := by decide +kernel
theorem dX7_best_51 : decode cX7_best 51 = .ok (.iload_n 3, 1) := by decide +kernel
theorem dX7_best_52 : decode cX7_best 52 = .ok (.invokevirtual 207, 3) := by decide +kernel
theorem dX7_best_55 : decode cX7_best 55 = .ok (.ireturn, 1) := by decide +kernel
set_option maxRecDepth 20000 in
theorem ggX7_order_X6_everybody : GoodIn wsX7_order wsX6_everybody := goodIn_r _ [7, 8, 110, 111, 112, 113, 114, 115, 116] (by decide +kernel) (by decide +kernel)
set_option maxRecDepth 20000 in
theorem gX7_order_X6_everybody : GoodIn wsX7_order (wsV RX7 210 RX6 yX6_everybody wsX6_everybody) := goodIn_app (goodIn_of _ (by decide +kernel)) ggX7_order_X6_everybody
set_option maxRecDepth 20000 in
theorem ggX7_order_X7_isWithin : GoodIn wsX7_order wsX7_isWithin := goodIn_r _ [12] (by decide +kernel) (by decide +kernel)
set_option maxRecDepth 20000 in
theorem gX7_order_X7_isWithin : GoodIn wsX7_order (va_wsS RX7 69 yX7_isWithin wsX7_isWithin) := goodIn_app (goodIn_of _ (by decide +kernel)) ggX7_order_X7_isWithin
set_option maxRecDepth 20000 in
theorem ggX7_order_X1_leastInOrder : GoodIn wsX7_order wsX1_leastInOrder := goodIn_r _ [17, 18, 19, 20, 21, 16, 22, 23, 24, 25, 26, 27, 28, 29, 30, 31, 6, 32, 33, 34, 35, 36, 37, 38, 39, 40, 41, 42, 43, 44, 45, 46, 47, 48, 11, 49, 50, 51, 52, 53, 54, 55, 56, 57, 58, 59, 60, 61, 62, 63, 64, 65, 66, 67, 68, 69, 70, 71, 72, 73, 74, 75, 76, 77, 78, 79, 80, 81, 82, 83, 84, 85, 86, 87, 88, 89, 90, 91, 92, 117, 118, 119, 110, 111, 112, 113, 114, 115, 116, 120, 121, 122, 123] (by decide +kernel) (by decide +kernel)
set_option maxRecDepth 20000 in
theorem gX7_order_X1_leastInOrder : GoodIn wsX7_order (wsV RX7 213 RX1 yX1_leastInOrder wsX1_leastInOrder) := goodIn_app (goodIn_of _ (by decide +kernel)) ggX7_order_X1_leastInOrder
set_option maxRecDepth 20000 in
theorem ggX7_order_X1_placeInOrder : GoodIn wsX7_order wsX1_placeInOrder := goodIn_r _ [96, 97, 98, 99, 16, 100, 23, 18, 24, 25, 26, 27, 28, 29, 30, 31, 6, 32, 33, 34, 35, 36, 37, 38, 39, 40, 41, 42, 43, 44, 45, 46, 47, 48, 11, 49, 50, 51, 52, 53, 54, 55, 56, 57, 58, 59, 60, 61, 62, 63, 64, 65, 66, 67, 68, 69, 70, 71, 72, 73, 74, 75, 76, 77, 78, 79, 80, 81, 82, 83, 84, 85, 86, 87, 88, 89, 90, 91, 92, 117, 118, 119, 110, 111, 112, 113, 114, 115, 116, 120, 121, 122, 123] (by decide +kernel) (by decide +kernel)
set_option maxRecDepth 20000 in
theorem gX7_order_X1_placeInOrder : GoodIn wsX7_order (wsV RX7 216 RX1 yX1_placeInOrder wsX1_placeInOrder) := goodIn_app (goodIn_of _ (by decide +kernel)) ggX7_order_X1_placeInOrder
theorem dX7_order_0 : decode cX7_order 0 = .ok (.iload_n 1, 1) := by decide +kernel
theorem dX7_order_1 : decode cX7_order 1 = .ok (.aload_n 0, 1) := by decide +kernel
theorem dX7_order_2 : decode cX7_order 2 = .ok (.getfield 19, 3) := by decide +kernel
theorem dX7_order_5 : decode cX7_order 5 = .ok (.invokevirtual 210, 3) := by decide +kernel
theorem dX7_order_8 : decode cX7_order 8 = .ok (.iconst (-1), 1) := by decide +kernel
theorem dX7_order_9 : decode cX7_order 9 = .ok (.ixor, 1) := by decide +kernel
theorem dX7_order_10 : decode cX7_order 10 = .ok (.iand, 1) := by decide +kernel
theorem dX7_order_11 : decode cX7_order 11 = .ok (.ifCond .eq 6, 3) := by decide +kernel
theorem dX7_order_14 : decode cX7_order 14 = .ok (.bipush (-2), 2) := by decide +kernel
theorem dX7_order_16 : decode cX7_order 16 = .ok (.ireturn, 1) := by decide +kernel
theorem dX7_order_17 : decode cX7_order 17 = .ok (.iload_n 2, 1) := by decide +kernel
theorem dX7_order_18 : decode cX7_order 18 = .ok (.iconst 0, 1) := by decide +kernel
theorem dX7_order_19 : decode cX7_order 19 = .ok (.bipush 59, 2) := by decide +kernel
theorem dX7_order_21 : decode cX7_order 21 = .ok (.invokestatic 69, 3) := by decide +kernel
theorem dX7_order_24 : decode cX7_order 24 = .ok (.ifCond .eq 13, 3) := by decide +kernel
theorem dX7_order_27 : decode cX7_order 27 = .ok (.iload_n 3, 1) := by decide +kernel
theorem dX7_order_28 : decode cX7_order 28 = .ok (.iconst 0, 1) := by decide +kernel
theorem dX7_order_29 : decode cX7_order 29 = .ok (.bipush 6, 2) := by decide +kernel
theorem dX7_order_31 : decode cX7_order 31 = .ok (.invokestatic 69, 3) := by decide +kernel
theorem dX7_order_34 : decode cX7_order 34 = .ok (.ifCond .ne 6, 3) := by decide +kernel
theorem dX7_order_37 : decode cX7_order 37 = .ok (.bipush (-3), 2) := by decide +kernel
theorem dX7_order_39 : decode cX7_order 39 = .ok (.ireturn, 1) := by decide +kernel
theorem dX7_order_40 : decode cX7_order 40 = .ok (.aload_n 0, 1) := by decide +kernel
theorem dX7_order_41 : decode cX7_order 41 = .ok (.getfield 38, 3) := by decide +kernel
theorem dX7_order_44 : decode cX7_order 44 = .ok (.iload_n 1, 1) := by decide +kernel
theorem dX7_order_45 : decode cX7_order 45 = .ok (.iload_n 2, 1) := by decide +kernel
theorem dX7_order_46 : decode cX7_order 46 = .ok (.invokevirtual 213, 3) := by decide +kernel
theorem dX7_order_49 : decode cX7_order 49 = .ok (.istore 4, 2) := by decide +kernel
theorem dX7_order_51 : decode cX7_order 51 = .ok (.iload_n 3, 1) := by decide +kernel
theorem dX7_order_52 : decode cX7_order 52 = .ok (.ifCond .eq 9, 3) := by decide +kernel
theorem dX7_order_55 : decode cX7_order 55 = .ok (.iload 4, 2) := by decide +kernel
theorem dX7_order_57 : decode cX7_order 57 = .ok (.iconst (-1), 1) := by decide +kernel
theorem dX7_order_58 : decode cX7_order 58 = .ok (.if_icmp .ne 6, 3) := by decide +kernel
theorem dX7_order_61 : decode cX7_order 61 = .ok (.iload 4, 2) := by decide +kernel
theorem dX7_order_63 : decode cX7_order 63 = .ok (.ireturn, 1) := by decide +kernel
theorem dX7_order_64 : decode cX7_order 64 = .ok (.aload_n 0, 1) := by decide +kernel
theorem dX7_order_65 : decode cX7_order 65 = .ok (.getfield 38, 3) := by decide +kernel
theorem dX7_order_68 : decode cX7_order 68 = .ok (.iload_n 1, 1) := by decide +kernel
theorem dX7_order_69 : decode cX7_order 69 = .ok (.iload_n 2, 1) := by decide +kernel
theorem dX7_order_70 : decode cX7_order 70 = .ok (.iload_n 3, 1) := by decide +kernel
theorem dX7_order_71 : decode cX7_order 71 = .ok (.invokevirtual 216, 3) := by decide +kernel
theorem dX7_order_74 : decode cX7_order 74 = .ok (.ireturn, 1) := by decide +kernel
set_option maxRecDepth 20000 in
theorem ggX7_reached_X6_walkOf : GoodIn wsX7_reached wsX6_walkOf := goodIn_r _ [7, 8, 9, 24, 25, 26, 27, 28, 29, 30] (by decide +kernel) (by decide +kernel)
set_option maxRecDepth 20000 in
theorem gX7_reached_X6_walkOf : GoodIn wsX7_reached (wsV RX7 163 RX6 yX6_walkOf wsX6_walkOf) := goodIn_app (goodIn_of _ (by decide +kernel)) ggX7_reached_X6_walkOf
set_option maxRecDepth 20000 in
theorem ggX7_reached_X7_span : GoodIn wsX7_reached wsX7_span := goodIn_r _ [13, 14] (by decide +kernel) (by decide +kernel)
set_option maxRecDepth 20000 in
theorem gX7_reached_X7_span : GoodIn wsX7_reached (va_wsS RX7 223 yX7_span wsX7_span) := goodIn_app (goodIn_of _ (by decide +kernel)) ggX7_reached_X7_span
theorem dX7_reached_0 : decode cX7_reached 0 = .ok (.lconst 0, 1) := by decide +kernel
theorem dX7_reached_1 : decode cX7_reached 1 = .ok (.lstore_n 1, 1) := by decide +kernel
theorem dX7_reached_2 : decode cX7_reached 2 = .ok (.iconst 0, 1) := by decide +kernel
theorem dX7_reached_3 : decode cX7_reached 3 = .ok (.istore_n 3, 1) := by decide +kernel
theorem dX7_reached_4 : decode cX7_reached 4 = .ok (.iload_n 3, 1) := by decide +kernel
theorem dX7_reached_5 : decode cX7_reached 5 = .ok (.aload_n 0, 1) := by decide +kernel
theorem dX7_reached_6 : decode cX7_reached 6 = .ok (.getfield 19, 3) := by decide +kernel
theorem dX7_reached_9 : decode cX7_reached 9 = .ok (.getfield 220, 3) := by decide +kernel
theorem dX7_reached_12 : decode cX7_reached 12 = .ok (.if_icmp .ge 33, 3) := by decide +kernel
theorem dX7_reached_15 : decode cX7_reached 15 = .ok (.lload_n 1, 1) := by decide +kernel
theorem dX7_reached_16 : decode cX7_reached 16 = .ok (.aload_n 0, 1) := by decide +kernel
theorem dX7_reached_17 : decode cX7_reached 17 = .ok (.getfield 19, 3) := by decide +kernel
theorem dX7_reached_20 : decode cX7_reached 20 = .ok (.iload_n 3, 1) := by decide +kernel
theorem dX7_reached_21 : decode cX7_reached 21 = .ok (.invokevirtual 163, 3) := by decide +kernel
theorem dX7_reached_24 : decode cX7_reached 24 = .ok (.aload_n 0, 1) := by decide +kernel
theorem dX7_reached_25 : decode cX7_reached 25 = .ok (.getfield 29, 3) := by decide +kernel
theorem dX7_reached_28 : decode cX7_reached 28 = .ok (.getfield 135, 3) := by decide +kernel
theorem dX7_reached_31 : decode cX7_reached 31 = .ok (.iadd, 1) := by decide +kernel
theorem dX7_reached_32 : decode cX7_reached 32 = .ok (.bipush 59, 2) := by decide +kernel
theorem dX7_reached_34 : decode cX7_reached 34 = .ok (.invokestatic 223, 3) := by decide +kernel
theorem dX7_reached_37 : decode cX7_reached 37 = .ok (.lor, 1) := by decide +kernel
theorem dX7_reached_38 : decode cX7_reached 38 = .ok (.lstore_n 1, 1) := by decide +kernel
theorem dX7_reached_39 : decode cX7_reached 39 = .ok (.iinc 3 1, 3) := by decide +kernel
theorem dX7_reached_42 : decode cX7_reached 42 = .ok (.goto (-38), 3) := by decide +kernel
theorem dX7_reached_45 : decode cX7_reached 45 = .ok (.lload_n 1, 1) := by decide +kernel
theorem dX7_reached_46 : decode cX7_reached 46 = .ok (.lreturn, 1) := by decide +kernel
set_option maxRecDepth 20000 in
theorem ggX7_free_X6_knows : GoodIn wsX7_free wsX6_knows := goodIn_r _ [8, 9, 49, 50, 51, 52, 53, 54, 55] (by decide +kernel) (by decide +kernel)
set_option maxRecDepth 20000 in
theorem gX7_free_X6_knows : GoodIn wsX7_free (wsV RX7 100 RX6 yX6_knows wsX6_knows) := goodIn_app (goodIn_of _ (by decide +kernel)) ggX7_free_X6_knows
set_option maxRecDepth 20000 in
theorem ggX7_free_X1_freeFor : GoodIn wsX7_free wsX1_freeFor := goodIn_r _ [14, 15, 16, 17, 18, 19, 20, 21, 7, 22, 23, 24, 25, 26, 27, 28, 29, 30, 31, 32, 33, 13, 34, 35, 36, 37, 38, 39, 56, 57, 58, 49, 50, 51, 52, 53, 54, 55, 59, 60, 61, 62] (by decide +kernel) (by decide +kernel)
set_option maxRecDepth 20000 in
theorem gX7_free_X1_freeFor : GoodIn wsX7_free (wsV RX7 227 RX1 yX1_freeFor wsX1_freeFor) := goodIn_app (goodIn_of _ (by decide +kernel)) ggX7_free_X1_freeFor
theorem dX7_free_0 : decode cX7_free 0 = .ok (.aload_n 0, 1) := by decide +kernel
theorem dX7_free_1 : decode cX7_free 1 = .ok (.getfield 19, 3) := by decide +kernel
theorem dX7_free_4 : decode cX7_free 4 = .ok (.iload_n 1, 1) := by decide +kernel
theorem dX7_free_5 : decode cX7_free 5 = .ok (.invokevirtual 100, 3) := by decide +kernel
theorem dX7_free_8 : decode cX7_free 8 = .ok (.ifCond .eq 14, 3) := by decide +kernel
theorem dX7_free_11 : decode cX7_free 11 = .ok (.aload_n 0, 1) := by decide +kernel
theorem dX7_free_12 : decode cX7_free 12 = .ok (.getfield 38, 3) := by decide +kernel
theorem dX7_free_15 : decode cX7_free 15 = .ok (.iload_n 1, 1) := by decide +kernel
theorem dX7_free_16 : decode cX7_free 16 = .ok (.invokevirtual 227, 3) := by decide +kernel
theorem dX7_free_19 : decode cX7_free 19 = .ok (.goto 6, 3) := by decide +kernel
theorem dX7_free_22 : decode cX7_free 22 = .ok (.ldc2_w 230, 3) := by decide +kernel
theorem dX7_free_25 : decode cX7_free 25 = .ok (.lreturn, 1) := by decide +kernel
set_option maxRecDepth 20000 in
theorem ggX7_ropes_X7_isWithin : GoodIn wsX7_ropes wsX7_isWithin := goodIn_r _ [7] (by decide +kernel) (by decide +kernel)
set_option maxRecDepth 20000 in
theorem gX7_ropes_X7_isWithin : GoodIn wsX7_ropes (va_wsS RX7 69 yX7_isWithin wsX7_isWithin) := goodIn_app (goodIn_of _ (by decide +kernel)) ggX7_ropes_X7_isWithin
set_option maxRecDepth 20000 in
theorem ggX7_ropes_X1_wholeFine : GoodIn wsX7_ropes wsX1_wholeFine := goodIn_r _ [12, 13, 14, 15, 16, 17, 18, 19, 20, 21, 22, 11, 23, 24, 25, 26, 27, 28, 29, 30, 31, 32, 33, 34, 35, 36, 37, 6, 38, 39, 40, 41, 42, 43, 44, 45, 46, 47, 48, 49, 50, 51, 52, 53, 54, 55, 56, 57, 58, 59, 60, 61, 62, 63, 64, 65, 66, 67, 68, 69, 70, 71, 72, 73, 74, 75, 96, 97, 98, 92, 93, 94, 95, 85, 86, 87, 88, 89, 90, 91] (by decide +kernel) (by decide +kernel)
set_option maxRecDepth 20000 in
theorem gX7_ropes_X1_wholeFine : GoodIn wsX7_ropes (wsV RX7 232 RX1 yX1_wholeFine wsX1_wholeFine) := goodIn_app (goodIn_of _ (by decide +kernel)) ggX7_ropes_X1_wholeFine
theorem dX7_ropes_0 : decode cX7_ropes 0 = .ok (.iload_n 1, 1) := by decide +kernel
theorem dX7_ropes_1 : decode cX7_ropes 1 = .ok (.iconst 0, 1) := by decide +kernel
theorem dX7_ropes_2 : decode cX7_ropes 2 = .ok (.bipush 99, 2) := by decide +kernel
theorem dX7_ropes_4 : decode cX7_ropes 4 = .ok (.invokestatic 69, 3) := by decide +kernel
theorem dX7_ropes_7 : decode cX7_ropes 7 = .ok (.ifCond .ne 6, 3) := by decide +kernel
theorem dX7_ropes_10 : decode cX7_ropes 10 = .ok (.bipush (-3), 2) := by decide +kernel
theorem dX7_ropes_12 : decode cX7_ropes 12 = .ok (.ireturn, 1) := by decide +kernel
theorem dX7_ropes_13 : decode cX7_ropes 13 = .ok (.iconst 0, 1) := by decide +kernel
theorem dX7_ropes_14 : decode cX7_ropes 14 = .ok (.istore_n 2, 1) := by decide +kernel
theorem dX7_ropes_15 : decode cX7_ropes 15 = .ok (.iconst 0, 1) := by decide +kernel
theorem dX7_ropes_16 : decode cX7_ropes 16 = .ok (.istore_n 3, 1) := by decide +kernel
theorem dX7_ropes_17 : decode cX7_ropes 17 = .ok (.iload_n 3, 1) := by decide +kernel
theorem dX7_ropes_18 : decode cX7_ropes 18 = .ok (.aload_n 0, 1) := by decide +kernel
theorem dX7_ropes_19 : decode cX7_ropes 19 = .ok (.getfield 19, 3) := by decide +kernel
theorem dX7_ropes_22 : decode cX7_ropes 22 = .ok (.getfield 220, 3) := by decide +kernel
theorem dX7_ropes_25 : decode cX7_ropes 25 = .ok (.if_icmp .ge 48, 3) := by decide +kernel
theorem dX7_ropes_28 : decode cX7_ropes 28 = .ok (.aload_n 0, 1) := by decide +kernel
theorem dX7_ropes_29 : decode cX7_ropes 29 = .ok (.getfield 38, 3) := by decide +kernel
theorem dX7_ropes_32 : decode cX7_ropes 32 = .ok (.iload_n 3, 1) := by decide +kernel
theorem dX7_ropes_33 : decode cX7_ropes 33 = .ok (.aload_n 0, 1) := by decide +kernel
theorem dX7_ropes_34 : decode cX7_ropes 34 = .ok (.getfield 29, 3) := by decide +kernel
theorem dX7_ropes_37 : decode cX7_ropes 37 = .ok (.getfield 135, 3) := by decide +kernel
theorem dX7_ropes_40 : decode cX7_ropes 40 = .ok (.invokevirtual 232, 3) := by decide +kernel
theorem dX7_ropes_43 : decode cX7_ropes 43 = .ok (.istore 4, 2) := by decide +kernel
theorem dX7_ropes_45 : decode cX7_ropes 45 = .ok (.iload 4, 2) := by decide +kernel
theorem dX7_ropes_47 : decode cX7_ropes 47 = .ok (.iconst 2, 1) := by decide +kernel
theorem dX7_ropes_48 : decode cX7_ropes 48 = .ok (.idiv, 1) := by decide +kernel
theorem dX7_ropes_49 : decode cX7_ropes 49 = .ok (.iload_n 1, 1) := by decide +kernel
theorem dX7_ropes_50 : decode cX7_ropes 50 = .ok (.if_icmp .le 5, 3) := by decide +kernel
theorem dX7_ropes_53 : decode cX7_ropes 53 = .ok (.iconst (-1), 1) := by decide +kernel
theorem dX7_ropes_54 : decode cX7_ropes 54 = .ok (.ireturn, 1) := by decide +kernel
theorem dX7_ropes_55 : decode cX7_ropes 55 = .ok (.iload 4, 2) := by decide +kernel
theorem dX7_ropes_57 : decode cX7_ropes 57 = .ok (.iload_n 1, 1) := by decide +kernel
theorem dX7_ropes_58 : decode cX7_ropes 58 = .ok (.if_icmp .le 9, 3) := by decide +kernel
theorem dX7_ropes_61 : decode cX7_ropes 61 = .ok (.iload_n 2, 1) := by decide +kernel
theorem dX7_ropes_62 : decode cX7_ropes 62 = .ok (.iconst 1, 1) := by decide +kernel
theorem dX7_ropes_63 : decode cX7_ropes 63 = .ok (.iload_n 3, 1) := by decide +kernel
theorem dX7_ropes_64 : decode cX7_ropes 64 = .ok (.ishl, 1) := by decide +kernel
theorem dX7_ropes_65 : decode cX7_ropes 65 = .ok (.ior, 1) := by decide +kernel
theorem dX7_ropes_66 : decode cX7_ropes 66 = .ok (.istore_n 2, 1) := by decide +kernel
theorem dX7_ropes_67 : decode cX7_ropes 67 = .ok (.iinc 3 1, 3) := by decide +kernel
theorem dX7_ropes_70 : decode cX7_ropes 70 = .ok (.goto (-53), 3) := by decide +kernel
theorem dX7_ropes_73 : decode cX7_ropes 73 = .ok (.iload_n 2, 1) := by decide +kernel
theorem dX7_ropes_74 : decode cX7_ropes 74 = .ok (.ireturn, 1) := by decide +kernel
set_option maxRecDepth 20000 in
theorem ggX7_together_X7_areTwo : GoodIn wsX7_together wsX7_areTwo := goodIn_r _ [5, 6, 7, 8, 9, 10, 11, 12, 52, 53, 54, 55, 56, 57, 58, 59, 60, 61, 62, 63, 64, 65, 66, 67] (by decide +kernel) (by decide +kernel)
set_option maxRecDepth 20000 in
theorem gX7_together_X7_areTwo : GoodIn wsX7_together (wsV RX7 181 RX7 yX7_areTwo wsX7_areTwo) := goodIn_app (goodIn_of _ (by decide +kernel)) ggX7_together_X7_areTwo
set_option maxRecDepth 20000 in
theorem ggX7_together_X7_standsNow : GoodIn wsX7_together wsX7_standsNow := goodIn_r _ [16, 17, 18, 19, 20, 21, 22, 23, 24, 25, 26, 27, 28, 29, 30, 31, 32, 33, 10, 34, 35, 36, 37, 38, 39, 40, 41, 42, 4, 43, 44, 52, 53, 54, 55, 56, 57, 58, 59, 60, 68, 69, 70, 71, 72, 73, 74, 61, 62, 63, 64, 65, 66, 67] (by decide +kernel) (by decide +kernel)
set_option maxRecDepth 20000 in
theorem gX7_together_X7_standsNow : GoodIn wsX7_together (wsV RX7 125 RX7 yX7_standsNow wsX7_standsNow) := goodIn_app (goodIn_of _ (by decide +kernel)) ggX7_together_X7_standsNow
set_option maxRecDepth 20000 in
theorem ggX7_together_J13_bitCount_95d88 : GoodIn wsX7_together wsJ13_bitCount_95d88 := goodIn_r _ [48, 49, 50, 51] (by decide +kernel) (by decide +kernel)
set_option maxRecDepth 20000 in
theorem gX7_together_J13_bitCount_95d88 : GoodIn wsX7_together (va_wsS RX7 129 yJ13_bitCount_95d88 wsJ13_bitCount_95d88) := goodIn_app (goodIn_of _ (by decide +kernel)) ggX7_together_J13_bitCount_95d88
theorem dX7_together_0 : decode cX7_together 0 = .ok (.aload_n 0, 1) := by decide +kernel
theorem dX7_together_1 : decode cX7_together 1 = .ok (.iload_n 1, 1) := by decide +kernel
theorem dX7_together_2 : decode cX7_together 2 = .ok (.iload_n 2, 1) := by decide +kernel
theorem dX7_together_3 : decode cX7_together 3 = .ok (.invokevirtual 181, 3) := by decide +kernel
theorem dX7_together_6 : decode cX7_together 6 = .ok (.ifCond .ne 6, 3) := by decide +kernel
theorem dX7_together_9 : decode cX7_together 9 = .ok (.bipush (-2), 2) := by decide +kernel
theorem dX7_together_11 : decode cX7_together 11 = .ok (.ireturn, 1) := by decide +kernel
theorem dX7_together_12 : decode cX7_together 12 = .ok (.aload_n 0, 1) := by decide +kernel
theorem dX7_together_13 : decode cX7_together 13 = .ok (.iload_n 1, 1) := by decide +kernel
theorem dX7_together_14 : decode cX7_together 14 = .ok (.invokevirtual 125, 3) := by decide +kernel
theorem dX7_together_17 : decode cX7_together 17 = .ok (.aload_n 0, 1) := by decide +kernel
theorem dX7_together_18 : decode cX7_together 18 = .ok (.iload_n 2, 1) := by decide +kernel
theorem dX7_together_19 : decode cX7_together 19 = .ok (.invokevirtual 125, 3) := by decide +kernel
theorem dX7_together_22 : decode cX7_together 22 = .ok (.land, 1) := by decide +kernel
theorem dX7_together_23 : decode cX7_together 23 = .ok (.invokestatic 129, 3) := by decide +kernel
theorem dX7_together_26 : decode cX7_together 26 = .ok (.ireturn, 1) := by decide +kernel
set_option maxRecDepth 20000 in
theorem ggX7_seen_X6_knows : GoodIn wsX7_seen wsX6_knows := goodIn_r _ [7, 8, 34, 35, 36, 37, 38, 39, 40] (by decide +kernel) (by decide +kernel)
set_option maxRecDepth 20000 in
theorem gX7_seen_X6_knows : GoodIn wsX7_seen (wsV RX7 100 RX6 yX6_knows wsX6_knows) := goodIn_app (goodIn_of _ (by decide +kernel)) ggX7_seen_X6_knows
set_option maxRecDepth 20000 in
theorem ggX7_seen_X7_isWithin : GoodIn wsX7_seen wsX7_isWithin := goodIn_r _ [12] (by decide +kernel) (by decide +kernel)
set_option maxRecDepth 20000 in
theorem gX7_seen_X7_isWithin : GoodIn wsX7_seen (va_wsS RX7 69 yX7_isWithin wsX7_isWithin) := goodIn_app (goodIn_of _ (by decide +kernel)) ggX7_seen_X7_isWithin
set_option maxRecDepth 20000 in
theorem ggX7_seen_X4_add : GoodIn wsX7_seen wsX4_add := goodIn_r _ [17, 18, 19, 20, 41, 42, 43] (by decide +kernel) (by decide +kernel)
set_option maxRecDepth 20000 in
theorem gX7_seen_X4_add : GoodIn wsX7_seen (wsV RX7 235 RX4 yX4_add wsX4_add) := goodIn_app (goodIn_of _ (by decide +kernel)) ggX7_seen_X4_add
set_option maxRecDepth 20000 in
theorem ggX7_seen_X4_size : GoodIn wsX7_seen wsX4_size := goodIn_r _ [24, 18, 41, 42, 43] (by decide +kernel) (by decide +kernel)
set_option maxRecDepth 20000 in
theorem gX7_seen_X4_size : GoodIn wsX7_seen (wsV RX7 237 RX4 yX4_size wsX4_size) := goodIn_app (goodIn_of _ (by decide +kernel)) ggX7_seen_X4_size
theorem dX7_seen_0 : decode cX7_seen 0 = .ok (.aload_n 0, 1) := by decide +kernel
theorem dX7_seen_1 : decode cX7_seen 1 = .ok (.getfield 19, 3) := by decide +kernel
theorem dX7_seen_4 : decode cX7_seen 4 = .ok (.iload_n 1, 1) := by decide +kernel
theorem dX7_seen_5 : decode cX7_seen 5 = .ok (.invokevirtual 100, 3) := by decide +kernel
theorem dX7_seen_8 : decode cX7_seen 8 = .ok (.ifCond .ne 6, 3) := by decide +kernel
theorem dX7_seen_11 : decode cX7_seen 11 = .ok (.bipush (-2), 2) := by decide +kernel
theorem dX7_seen_13 : decode cX7_seen 13 = .ok (.ireturn, 1) := by decide +kernel
theorem dX7_seen_14 : decode cX7_seen 14 = .ok (.iload_n 2, 1) := by decide +kernel
theorem dX7_seen_15 : decode cX7_seen 15 = .ok (.iconst 0, 1) := by decide +kernel
theorem dX7_seen_16 : decode cX7_seen 16 = .ok (.bipush 99, 2) := by decide +kernel
theorem dX7_seen_18 : decode cX7_seen 18 = .ok (.invokestatic 69, 3) := by decide +kernel
theorem dX7_seen_21 : decode cX7_seen 21 = .ok (.ifCond .ne 6, 3) := by decide +kernel
theorem dX7_seen_24 : decode cX7_seen 24 = .ok (.bipush (-3), 2) := by decide +kernel
theorem dX7_seen_26 : decode cX7_seen 26 = .ok (.ireturn, 1) := by decide +kernel
theorem dX7_seen_27 : decode cX7_seen 27 = .ok (.aload_n 0, 1) := by decide +kernel
theorem dX7_seen_28 : decode cX7_seen 28 = .ok (.getfield 61, 3) := by decide +kernel
theorem dX7_seen_31 : decode cX7_seen 31 = .ok (.iload_n 1, 1) := by decide +kernel
theorem dX7_seen_32 : decode cX7_seen 32 = .ok (.iload_n 2, 1) := by decide +kernel
theorem dX7_seen_33 : decode cX7_seen 33 = .ok (.invokevirtual 235, 3) := by decide +kernel
theorem dX7_seen_36 : decode cX7_seen 36 = .ok (.ifCond .eq 13, 3) := by decide +kernel
theorem dX7_seen_39 : decode cX7_seen 39 = .ok (.aload_n 0, 1) := by decide +kernel
theorem dX7_seen_40 : decode cX7_seen 40 = .ok (.getfield 61, 3) := by decide +kernel
theorem dX7_seen_43 : decode cX7_seen 43 = .ok (.invokevirtual 237, 3) := by decide +kernel
theorem dX7_seen_46 : decode cX7_seen 46 = .ok (.goto 5, 3) := by decide +kernel
theorem dX7_seen_49 : decode cX7_seen 49 = .ok (.bipush (-5), 2) := by decide +kernel
theorem dX7_seen_51 : decode cX7_seen 51 = .ok (.ireturn, 1) := by decide +kernel
set_option maxRecDepth 20000 in
theorem ggX7_forget_X4_size : GoodIn wsX7_forget wsX4_size := goodIn_r _ [6, 7, 21, 22, 23] (by decide +kernel) (by decide +kernel)
set_option maxRecDepth 20000 in
theorem gX7_forget_X4_size : GoodIn wsX7_forget (wsV RX7 237 RX4 yX4_size wsX4_size) := goodIn_app (goodIn_of _ (by decide +kernel)) ggX7_forget_X4_size
set_option maxRecDepth 20000 in
theorem ggX7_forget_X4_empty : GoodIn wsX7_forget wsX4_empty := goodIn_r _ [11, 7, 21, 22, 23] (by decide +kernel) (by decide +kernel)
set_option maxRecDepth 20000 in
theorem gX7_forget_X4_empty : GoodIn wsX7_forget (wsV RX7 96 RX4 yX4_empty wsX4_empty) := goodIn_app (goodIn_of _ (by decide +kernel)) ggX7_forget_X4_empty
theorem dX7_forget_0 : decode cX7_forget 0 = .ok (.aload_n 0, 1) := by decide +kernel
theorem dX7_forget_1 : decode cX7_forget 1 = .ok (.getfield 61, 3) := by decide +kernel
theorem dX7_forget_4 : decode cX7_forget 4 = .ok (.invokevirtual 237, 3) := by decide +kernel
theorem dX7_forget_7 : decode cX7_forget 7 = .ok (.istore_n 1, 1) := by decide +kernel
theorem dX7_forget_8 : decode cX7_forget 8 = .ok (.aload_n 0, 1) := by decide +kernel
theorem dX7_forget_9 : decode cX7_forget 9 = .ok (.getfield 61, 3) := by decide +kernel
theorem dX7_forget_12 : decode cX7_forget 12 = .ok (.invokevirtual 96, 3) := by decide +kernel
theorem dX7_forget_15 : decode cX7_forget 15 = .ok (.iload_n 1, 1) := by decide +kernel
theorem dX7_forget_16 : decode cX7_forget 16 = .ok (.ireturn, 1) := by decide +kernel
set_option maxRecDepth 20000 in
theorem ggX7_clocks_X4_fit : GoodIn wsX7_clocks wsX4_fit := goodIn_r _ [7, 8, 9, 10, 11, 12, 13, 14, 15, 16, 17, 18, 19, 20, 21, 22, 23, 24, 25, 26, 27, 28, 29, 30, 31, 32, 33, 34, 35, 36, 37, 38, 39, 40, 41, 42, 43, 44, 45, 46, 47, 48, 49, 50, 51, 52, 53, 54, 55, 56, 57, 58, 59, 60, 61, 62, 63, 64, 65, 66, 67, 68, 69, 70, 71, 72, 73, 74, 75, 76, 77, 78, 79, 80, 81, 82, 83, 84, 85, 86, 87, 88, 89, 90, 91, 92, 102, 103, 104, 105, 106, 107, 108, 109, 110, 111, 112, 113, 114, 115, 116, 117, 118] (by decide +kernel) (by decide +kernel)
set_option maxRecDepth 20000 in
theorem gX7_clocks_X4_fit : GoodIn wsX7_clocks (wsV RX7 238 RX4 yX4_fit wsX4_fit) := goodIn_app (goodIn_of _ (by decide +kernel)) ggX7_clocks_X4_fit
theorem dX7_clocks_0 : decode cX7_clocks 0 = .ok (.iconst 0, 1) := by decide +kernel
theorem dX7_clocks_1 : decode cX7_clocks 1 = .ok (.istore_n 1, 1) := by decide +kernel
theorem dX7_clocks_2 : decode cX7_clocks 2 = .ok (.iconst 0, 1) := by decide +kernel
theorem dX7_clocks_3 : decode cX7_clocks 3 = .ok (.istore_n 2, 1) := by decide +kernel
theorem dX7_clocks_4 : decode cX7_clocks 4 = .ok (.iload_n 2, 1) := by decide +kernel
theorem dX7_clocks_5 : decode cX7_clocks 5 = .ok (.bipush 9, 2) := by decide +kernel
theorem dX7_clocks_7 : decode cX7_clocks 7 = .ok (.if_icmp .gt 30, 3) := by decide +kernel
theorem dX7_clocks_10 : decode cX7_clocks 10 = .ok (.aload_n 0, 1) := by decide +kernel
theorem dX7_clocks_11 : decode cX7_clocks 11 = .ok (.getfield 61, 3) := by decide +kernel
theorem dX7_clocks_14 : decode cX7_clocks 14 = .ok (.aload_n 0, 1) := by decide +kernel
theorem dX7_clocks_15 : decode cX7_clocks 15 = .ok (.getfield 38, 3) := by decide +kernel
theorem dX7_clocks_18 : decode cX7_clocks 18 = .ok (.iload_n 2, 1) := by decide +kernel
theorem dX7_clocks_19 : decode cX7_clocks 19 = .ok (.invokevirtual 238, 3) := by decide +kernel
theorem dX7_clocks_22 : decode cX7_clocks 22 = .ok (.ifCond .eq 9, 3) := by decide +kernel
theorem dX7_clocks_25 : decode cX7_clocks 25 = .ok (.iload_n 1, 1) := by decide +kernel
theorem dX7_clocks_26 : decode cX7_clocks 26 = .ok (.iconst 1, 1) := by decide +kernel
theorem dX7_clocks_27 : decode cX7_clocks 27 = .ok (.iload_n 2, 1) := by decide +kernel
theorem dX7_clocks_28 : decode cX7_clocks 28 = .ok (.ishl, 1) := by decide +kernel
theorem dX7_clocks_29 : decode cX7_clocks 29 = .ok (.ior, 1) := by decide +kernel
theorem dX7_clocks_30 : decode cX7_clocks 30 = .ok (.istore_n 1, 1) := by decide +kernel
theorem dX7_clocks_31 : decode cX7_clocks 31 = .ok (.iinc 2 1, 3) := by decide +kernel
theorem dX7_clocks_34 : decode cX7_clocks 34 = .ok (.goto (-30), 3) := by decide +kernel
theorem dX7_clocks_37 : decode cX7_clocks 37 = .ok (.iload_n 1, 1) := by decide +kernel
theorem dX7_clocks_38 : decode cX7_clocks 38 = .ok (.ireturn, 1) := by decide +kernel
set_option maxRecDepth 20000 in
theorem ggX7_clear_X6_knows : GoodIn wsX7_clear wsX6_knows := goodIn_r _ [6, 7, 72, 73, 74, 75, 76, 77, 78] (by decide +kernel) (by decide +kernel)
set_option maxRecDepth 20000 in
theorem gX7_clear_X6_knows : GoodIn wsX7_clear (wsV RX7 100 RX6 yX6_knows wsX6_knows) := goodIn_app (goodIn_of _ (by decide +kernel)) ggX7_clear_X6_knows
set_option maxRecDepth 20000 in
theorem ggX7_clear_X7_isWithin : GoodIn wsX7_clear wsX7_isWithin := goodIn_r _ [11] (by decide +kernel) (by decide +kernel)
set_option maxRecDepth 20000 in
theorem gX7_clear_X7_isWithin : GoodIn wsX7_clear (va_wsS RX7 69 yX7_isWithin wsX7_isWithin) := goodIn_app (goodIn_of _ (by decide +kernel)) ggX7_clear_X7_isWithin
set_option maxRecDepth 20000 in
theorem ggX7_clear_X7_standsNow : GoodIn wsX7_clear wsX7_standsNow := goodIn_r _ [15, 16, 17, 18, 19, 20, 21, 22, 23, 24, 25, 26, 27, 28, 29, 30, 31, 32, 5, 33, 34, 35, 36, 37, 38, 39, 40, 41, 10, 42, 43, 63, 64, 65, 66, 67, 68, 69, 70, 71, 79, 80, 81, 82, 83, 84, 85, 72, 73, 74, 75, 76, 77, 78] (by decide +kernel) (by decide +kernel)
set_option maxRecDepth 20000 in
theorem gX7_clear_X7_standsNow : GoodIn wsX7_clear (wsV RX7 125 RX7 yX7_standsNow wsX7_standsNow) := goodIn_app (goodIn_of _ (by decide +kernel)) ggX7_clear_X7_standsNow
set_option maxRecDepth 20000 in
theorem ggX7_clear_J13_bitCount_95d88 : GoodIn wsX7_clear wsJ13_bitCount_95d88 := goodIn_r _ [47, 48, 49, 50] (by decide +kernel) (by decide +kernel)
set_option maxRecDepth 20000 in
theorem gX7_clear_J13_bitCount_95d88 : GoodIn wsX7_clear (va_wsS RX7 129 yJ13_bitCount_95d88 wsJ13_bitCount_95d88) := goodIn_app (goodIn_of _ (by decide +kernel)) ggX7_clear_J13_bitCount_95d88
set_option maxRecDepth 20000 in
theorem ggX7_clear_X7_waysClear : GoodIn wsX7_clear wsX7_waysClear := goodIn_r _ [53, 54, 55, 10, 56, 57, 58, 59] (by decide +kernel) (by decide +kernel)
set_option maxRecDepth 20000 in
theorem gX7_clear_X7_waysClear : GoodIn wsX7_clear (va_wsS RX7 242 yX7_waysClear wsX7_waysClear) := goodIn_app (goodIn_of _ (by decide +kernel)) ggX7_clear_X7_waysClear
set_option maxRecDepth 20000 in
theorem ggX7_clear_X7_power : GoodIn wsX7_clear wsX7_power := goodIn_r _ [59] (by decide +kernel) (by decide +kernel)
set_option maxRecDepth 20000 in
theorem gX7_clear_X7_power : GoodIn wsX7_clear (va_wsS RX7 245 yX7_power wsX7_power) := goodIn_app (goodIn_of _ (by decide +kernel)) ggX7_clear_X7_power
set_option maxRecDepth 20000 in
theorem ggX7_clear_X7_commonDivisor : GoodIn wsX7_clear wsX7_commonDivisor := goodIn_r _ [62] (by decide +kernel) (by decide +kernel)
set_option maxRecDepth 20000 in
theorem gX7_clear_X7_commonDivisor : GoodIn wsX7_clear (va_wsS RX7 248 yX7_commonDivisor wsX7_commonDivisor) := goodIn_app (goodIn_of _ (by decide +kernel)) ggX7_clear_X7_commonDivisor
theorem dX7_clear_0 : decode cX7_clear 0 = .ok (.aload_n 0, 1) := by decide +kernel
theorem dX7_clear_1 : decode cX7_clear 1 = .ok (.getfield 19, 3) := by decide +kernel
theorem dX7_clear_4 : decode cX7_clear 4 = .ok (.iload_n 1, 1) := by decide +kernel
theorem dX7_clear_5 : decode cX7_clear 5 = .ok (.invokevirtual 100, 3) := by decide +kernel
theorem dX7_clear_8 : decode cX7_clear 8 = .ok (.ifCond .ne 6, 3) := by decide +kernel
theorem dX7_clear_11 : decode cX7_clear 11 = .ok (.bipush (-2), 2) := by decide +kernel
theorem dX7_clear_13 : decode cX7_clear 13 = .ok (.ireturn, 1) := by decide +kernel
theorem dX7_clear_14 : decode cX7_clear 14 = .ok (.iload_n 2, 1) := by decide +kernel
theorem dX7_clear_15 : decode cX7_clear 15 = .ok (.iconst 0, 1) := by decide +kernel
theorem dX7_clear_16 : decode cX7_clear 16 = .ok (.bipush 6, 2) := by decide +kernel
theorem dX7_clear_18 : decode cX7_clear 18 = .ok (.invokestatic 69, 3) := by decide +kernel
theorem dX7_clear_21 : decode cX7_clear 21 = .ok (.ifCond .eq 23, 3) := by decide +kernel
theorem dX7_clear_24 : decode cX7_clear 24 = .ok (.iload_n 3, 1) := by decide +kernel
theorem dX7_clear_25 : decode cX7_clear 25 = .ok (.iconst 0, 1) := by decide +kernel
theorem dX7_clear_26 : decode cX7_clear 26 = .ok (.bipush 10, 2) := by decide +kernel
theorem dX7_clear_28 : decode cX7_clear 28 = .ok (.invokestatic 69, 3) := by decide +kernel
theorem dX7_clear_31 : decode cX7_clear 31 = .ok (.ifCond .eq 13, 3) := by decide +kernel
theorem dX7_clear_34 : decode cX7_clear 34 = .ok (.iload 4, 2) := by decide +kernel
theorem dX7_clear_36 : decode cX7_clear 36 = .ok (.iconst 0, 1) := by decide +kernel
theorem dX7_clear_37 : decode cX7_clear 37 = .ok (.iconst 1, 1) := by decide +kernel
theorem dX7_clear_38 : decode cX7_clear 38 = .ok (.invokestatic 69, 3) := by decide +kernel
theorem dX7_clear_41 : decode cX7_clear 41 = .ok (.ifCond .ne 6, 3) := by decide +kernel
theorem dX7_clear_44 : decode cX7_clear 44 = .ok (.bipush (-3), 2) := by decide +kernel
theorem dX7_clear_46 : decode cX7_clear 46 = .ok (.ireturn, 1) := by decide +kernel
theorem dX7_clear_47 : decode cX7_clear 47 = .ok (.aload_n 0, 1) := by decide +kernel
theorem dX7_clear_48 : decode cX7_clear 48 = .ok (.iload_n 1, 1) := by decide +kernel
theorem dX7_clear_49 : decode cX7_clear 49 = .ok (.invokevirtual 125, 3) := by decide +kernel
theorem dX7_clear_52 : decode cX7_clear 52 = .ok (.invokestatic 129, 3) := by decide +kernel
theorem dX7_clear_55 : decode cX7_clear 55 = .ok (.istore 5, 2) := by decide +kernel
theorem dX7_clear_57 : decode cX7_clear 57 = .ok (.iload 5, 2) := by decide +kernel
theorem dX7_clear_59 : decode cX7_clear 59 = .ok (.iload_n 2, 1) := by decide +kernel
theorem dX7_clear_60 : decode cX7_clear 60 = .ok (.iload_n 3, 1) := by decide +kernel
theorem dX7_clear_61 : decode cX7_clear 61 = .ok (.invokestatic 242, 3) := by decide +kernel
theorem dX7_clear_64 : decode cX7_clear 64 = .ok (.istore 6, 2) := by decide +kernel
theorem dX7_clear_66 : decode cX7_clear 66 = .ok (.bipush 10, 2) := by decide +kernel
theorem dX7_clear_68 : decode cX7_clear 68 = .ok (.iload 5, 2) := by decide +kernel
theorem dX7_clear_70 : decode cX7_clear 70 = .ok (.invokestatic 245, 3) := by decide +kernel
theorem dX7_clear_73 : decode cX7_clear 73 = .ok (.istore 7, 2) := by decide +kernel
theorem dX7_clear_75 : decode cX7_clear 75 = .ok (.iload 6, 2) := by decide +kernel
theorem dX7_clear_77 : decode cX7_clear 77 = .ok (.iload 7, 2) := by decide +kernel
theorem dX7_clear_79 : decode cX7_clear 79 = .ok (.invokestatic 248, 3) := by decide +kernel
theorem dX7_clear_82 : decode cX7_clear 82 = .ok (.istore 8, 2) := by decide +kernel
theorem dX7_clear_84 : decode cX7_clear 84 = .ok (.iload 8, 2) := by decide +kernel
theorem dX7_clear_86 : decode cX7_clear 86 = .ok (.iconst 1, 1) := by decide +kernel
theorem dX7_clear_87 : decode cX7_clear 87 = .ok (.if_icmp .ge 5, 3) := by decide +kernel
theorem dX7_clear_90 : decode cX7_clear 90 = .ok (.iconst (-1), 1) := by decide +kernel
theorem dX7_clear_91 : decode cX7_clear 91 = .ok (.ireturn, 1) := by decide +kernel
theorem dX7_clear_92 : decode cX7_clear 92 = .ok (.iload 4, 2) := by decide +kernel
theorem dX7_clear_94 : decode cX7_clear 94 = .ok (.ifCond .ne 8, 3) := by decide +kernel
theorem dX7_clear_97 : decode cX7_clear 97 = .ok (.iload 6, 2) := by decide +kernel
theorem dX7_clear_99 : decode cX7_clear 99 = .ok (.goto 5, 3) := by decide +kernel
theorem dX7_clear_102 : decode cX7_clear 102 = .ok (.iload 7, 2) := by decide +kernel
theorem dX7_clear_104 : decode cX7_clear 104 = .ok (.iload 8, 2) := by decide +kernel
theorem dX7_clear_106 : decode cX7_clear 106 = .ok (.idiv, 1) := by decide +kernel
theorem dX7_clear_107 : decode cX7_clear 107 = .ok (.ireturn, 1) := by decide +kernel
set_option maxRecDepth 20000 in
theorem ggX7_count_X0_whoGo : GoodIn wsX7_count wsX0_whoGo := goodIn_r _ [10, 11, 136, 137, 138, 139] (by decide +kernel) (by decide +kernel)
set_option maxRecDepth 20000 in
theorem gX7_count_X0_whoGo : GoodIn wsX7_count (wsV RX7 251 RX0 yX0_whoGo wsX0_whoGo) := goodIn_app (goodIn_of _ (by decide +kernel)) ggX7_count_X0_whoGo
set_option maxRecDepth 20000 in
theorem ggX7_count_X7_finesOfAll : GoodIn wsX7_count wsX7_finesOfAll := goodIn_r _ [16, 1, 17, 2, 18, 19, 20, 21, 22, 23, 24, 25, 26, 27, 28, 29, 30, 9, 31, 11, 32, 33, 34, 35, 36, 37, 38, 39, 40, 41, 42, 43, 44, 45, 46, 47, 48, 49, 15, 50, 51, 52, 53, 54, 55, 56, 57, 58, 59, 60, 61, 62, 63, 64, 65, 66, 67, 68, 69, 70, 71, 72, 73, 74, 75, 76, 77, 78, 79, 80, 81, 82, 83, 84, 85, 86, 87, 88, 89, 90, 91, 92, 93, 94, 95, 96, 120, 121, 122, 123, 124, 125, 126, 127, 128, 129, 130, 131, 132, 133, 134, 135, 136, 137, 138, 139, 140, 141, 142] (by decide +kernel) (by decide +kernel)
set_option maxRecDepth 20000 in
theorem gX7_count_X7_finesOfAll : GoodIn wsX7_count (wsV RX7 254 RX7 yX7_finesOfAll wsX7_finesOfAll) := goodIn_app (goodIn_of _ (by decide +kernel)) ggX7_count_X7_finesOfAll
set_option maxRecDepth 20000 in
theorem ggX7_count_X0_landOfAll : GoodIn wsX7_count wsX0_landOfAll := goodIn_r _ [100, 67, 136, 137, 138, 139] (by decide +kernel) (by decide +kernel)
set_option maxRecDepth 20000 in
theorem gX7_count_X0_landOfAll : GoodIn wsX7_count (wsV RX7 257 RX0 yX0_landOfAll wsX0_landOfAll) := goodIn_app (goodIn_of _ (by decide +kernel)) ggX7_count_X0_landOfAll
set_option maxRecDepth 20000 in
theorem ggX7_count_J13_bitCount_95d88 : GoodIn wsX7_count wsJ13_bitCount_95d88 := goodIn_r _ [75, 76, 77, 78] (by decide +kernel) (by decide +kernel)
set_option maxRecDepth 20000 in
theorem gX7_count_J13_bitCount_95d88 : GoodIn wsX7_count (va_wsS RX7 129 yJ13_bitCount_95d88 wsJ13_bitCount_95d88) := goodIn_app (goodIn_of _ (by decide +kernel)) ggX7_count_J13_bitCount_95d88
set_option maxRecDepth 20000 in
theorem ggX7_count_X4_size : GoodIn wsX7_count wsX4_size := goodIn_r _ [106, 107, 143, 144, 145] (by decide +kernel) (by decide +kernel)
set_option maxRecDepth 20000 in
theorem gX7_count_X4_size : GoodIn wsX7_count (wsV RX7 237 RX4 yX4_size wsX4_size) := goodIn_app (goodIn_of _ (by decide +kernel)) ggX7_count_X4_size
set_option maxRecDepth 20000 in
theorem ggX7_count_X2_size : GoodIn wsX7_count wsX2_size := goodIn_r _ [112, 113, 146, 147, 148] (by decide +kernel) (by decide +kernel)
set_option maxRecDepth 20000 in
theorem gX7_count_X2_size : GoodIn wsX7_count (wsV RX7 196 RX2 yX2_size wsX2_size) := goodIn_app (goodIn_of _ (by decide +kernel)) ggX7_count_X2_size
set_option maxRecDepth 20000 in
theorem ggX7_count_X5_size : GoodIn wsX7_count wsX5_size := goodIn_r _ [118, 119, 149, 150, 151, 152, 153, 154] (by decide +kernel) (by decide +kernel)
set_option maxRecDepth 20000 in
theorem gX7_count_X5_size : GoodIn wsX7_count (wsV RX7 77 RX5 yX5_size wsX5_size) := goodIn_app (goodIn_of _ (by decide +kernel)) ggX7_count_X5_size
theorem dX7_count_0 : decode cX7_count 0 = .ok (.iload_n 1, 1) := by decide +kernel
theorem dX7_count_1 : decode cX7_count 1 = .ok (.tableswitch 138 0 9 #[55, 63, 71, 79, 84, 95, 106, 114, 122, 130], 55) := by decide +kernel
theorem dX7_count_56 : decode cX7_count 56 = .ok (.aload_n 0, 1) := by decide +kernel
theorem dX7_count_57 : decode cX7_count 57 = .ok (.getfield 19, 3) := by decide +kernel
theorem dX7_count_60 : decode cX7_count 60 = .ok (.getfield 220, 3) := by decide +kernel
theorem dX7_count_63 : decode cX7_count 63 = .ok (.ireturn, 1) := by decide +kernel
theorem dX7_count_64 : decode cX7_count 64 = .ok (.aload_n 0, 1) := by decide +kernel
theorem dX7_count_65 : decode cX7_count 65 = .ok (.getfield 29, 3) := by decide +kernel
theorem dX7_count_68 : decode cX7_count 68 = .ok (.getfield 135, 3) := by decide +kernel
theorem dX7_count_71 : decode cX7_count 71 = .ok (.ireturn, 1) := by decide +kernel
theorem dX7_count_72 : decode cX7_count 72 = .ok (.aload_n 0, 1) := by decide +kernel
theorem dX7_count_73 : decode cX7_count 73 = .ok (.getfield 29, 3) := by decide +kernel
theorem dX7_count_76 : decode cX7_count 76 = .ok (.invokevirtual 251, 3) := by decide +kernel
theorem dX7_count_79 : decode cX7_count 79 = .ok (.ireturn, 1) := by decide +kernel
theorem dX7_count_80 : decode cX7_count 80 = .ok (.aload_n 0, 1) := by decide +kernel
theorem dX7_count_81 : decode cX7_count 81 = .ok (.invokevirtual 254, 3) := by decide +kernel
theorem dX7_count_84 : decode cX7_count 84 = .ok (.ireturn, 1) := by decide +kernel
theorem dX7_count_85 : decode cX7_count 85 = .ok (.aload_n 0, 1) := by decide +kernel
theorem dX7_count_86 : decode cX7_count 86 = .ok (.getfield 29, 3) := by decide +kernel
theorem dX7_count_89 : decode cX7_count 89 = .ok (.invokevirtual 257, 3) := by decide +kernel
theorem dX7_count_92 : decode cX7_count 92 = .ok (.invokestatic 129, 3) := by decide +kernel
theorem dX7_count_95 : decode cX7_count 95 = .ok (.ireturn, 1) := by decide +kernel
theorem dX7_count_96 : decode cX7_count 96 = .ok (.aload_n 0, 1) := by decide +kernel
theorem dX7_count_97 : decode cX7_count 97 = .ok (.getfield 19, 3) := by decide +kernel
theorem dX7_count_100 : decode cX7_count 100 = .ok (.getfield 148, 3) := by decide +kernel
theorem dX7_count_103 : decode cX7_count 103 = .ok (.invokestatic 129, 3) := by decide +kernel
theorem dX7_count_106 : decode cX7_count 106 = .ok (.ireturn, 1) := by decide +kernel
theorem dX7_count_107 : decode cX7_count 107 = .ok (.aload_n 0, 1) := by decide +kernel
theorem dX7_count_108 : decode cX7_count 108 = .ok (.getfield 29, 3) := by decide +kernel
theorem dX7_count_111 : decode cX7_count 111 = .ok (.getfield 261, 3) := by decide +kernel
theorem dX7_count_114 : decode cX7_count 114 = .ok (.ireturn, 1) := by decide +kernel
theorem dX7_count_115 : decode cX7_count 115 = .ok (.aload_n 0, 1) := by decide +kernel
theorem dX7_count_116 : decode cX7_count 116 = .ok (.getfield 61, 3) := by decide +kernel
theorem dX7_count_119 : decode cX7_count 119 = .ok (.invokevirtual 237, 3) := by decide +kernel
theorem dX7_count_122 : decode cX7_count 122 = .ok (.ireturn, 1) := by decide +kernel
theorem dX7_count_123 : decode cX7_count 123 = .ok (.aload_n 0, 1) := by decide +kernel
theorem dX7_count_124 : decode cX7_count 124 = .ok (.getfield 45, 3) := by decide +kernel
theorem dX7_count_127 : decode cX7_count 127 = .ok (.invokevirtual 196, 3) := by decide +kernel
theorem dX7_count_130 : decode cX7_count 130 = .ok (.ireturn, 1) := by decide +kernel
theorem dX7_count_131 : decode cX7_count 131 = .ok (.aload_n 0, 1) := by decide +kernel
theorem dX7_count_132 : decode cX7_count 132 = .ok (.getfield 10, 3) := by decide +kernel
theorem dX7_count_135 : decode cX7_count 135 = .ok (.invokevirtual 77, 3) := by decide +kernel
theorem dX7_count_138 : decode cX7_count 138 = .ok (.ireturn, 1) := by decide +kernel
theorem dX7_count_139 : decode cX7_count 139 = .ok (.bipush (-3), 2) := by decide +kernel
theorem dX7_count_141 : decode cX7_count 141 = .ok (.ireturn, 1) := by decide +kernel
set_option maxRecDepth 20000 in
theorem ggX7_areTwo_X6_knows : GoodIn wsX7_areTwo wsX6_knows := goodIn_r _ [6, 7, 17, 18, 19, 20, 21, 22, 23] (by decide +kernel) (by decide +kernel)
set_option maxRecDepth 20000 in
theorem gX7_areTwo_X6_knows : GoodIn wsX7_areTwo (wsV RX7 100 RX6 yX6_knows wsX6_knows) := goodIn_app (goodIn_of _ (by decide +kernel)) ggX7_areTwo_X6_knows
theorem dX7_areTwo_0 : decode cX7_areTwo 0 = .ok (.aload_n 0, 1) := by decide +kernel
theorem dX7_areTwo_1 : decode cX7_areTwo 1 = .ok (.getfield 19, 3) := by decide +kernel
theorem dX7_areTwo_4 : decode cX7_areTwo 4 = .ok (.iload_n 1, 1) := by decide +kernel
theorem dX7_areTwo_5 : decode cX7_areTwo 5 = .ok (.invokevirtual 100, 3) := by decide +kernel
theorem dX7_areTwo_8 : decode cX7_areTwo 8 = .ok (.ifCond .eq 23, 3) := by decide +kernel
theorem dX7_areTwo_11 : decode cX7_areTwo 11 = .ok (.aload_n 0, 1) := by decide +kernel
theorem dX7_areTwo_12 : decode cX7_areTwo 12 = .ok (.getfield 19, 3) := by decide +kernel
theorem dX7_areTwo_15 : decode cX7_areTwo 15 = .ok (.iload_n 2, 1) := by decide +kernel
theorem dX7_areTwo_16 : decode cX7_areTwo 16 = .ok (.invokevirtual 100, 3) := by decide +kernel
theorem dX7_areTwo_19 : decode cX7_areTwo 19 = .ok (.ifCond .eq 12, 3) := by decide +kernel
theorem dX7_areTwo_22 : decode cX7_areTwo 22 = .ok (.iload_n 1, 1) := by decide +kernel
theorem dX7_areTwo_23 : decode cX7_areTwo 23 = .ok (.iload_n 2, 1) := by decide +kernel
theorem dX7_areTwo_24 : decode cX7_areTwo 24 = .ok (.if_icmp .eq 7, 3) := by decide +kernel
theorem dX7_areTwo_27 : decode cX7_areTwo 27 = .ok (.iconst 1, 1) := by decide +kernel
theorem dX7_areTwo_28 : decode cX7_areTwo 28 = .ok (.goto 4, 3) := by decide +kernel
theorem dX7_areTwo_31 : decode cX7_areTwo 31 = .ok (.iconst 0, 1) := by decide +kernel
theorem dX7_areTwo_32 : decode cX7_areTwo 32 = .ok (.ireturn, 1) := by decide +kernel
set_option maxRecDepth 20000 in
theorem ggX7_standsNow_X0_startOf : GoodIn wsX7_standsNow wsX0_startOf := goodIn_r _ [7, 8, 40, 41, 42, 43] (by decide +kernel) (by decide +kernel)
set_option maxRecDepth 20000 in
theorem gX7_standsNow_X0_startOf : GoodIn wsX7_standsNow (wsV RX7 116 RX0 yX0_startOf wsX0_startOf) := goodIn_app (goodIn_of _ (by decide +kernel)) ggX7_standsNow_X0_startOf
set_option maxRecDepth 20000 in
theorem ggX7_standsNow_X1_stands : GoodIn wsX7_standsNow wsX1_stands := goodIn_r _ [13, 14, 15, 16, 17, 18, 19, 20, 21, 22, 23, 24, 25, 26, 27, 28, 29, 30, 44, 45, 46, 47, 48, 49, 50, 51, 52, 53] (by decide +kernel) (by decide +kernel)
set_option maxRecDepth 20000 in
theorem gX7_standsNow_X1_stands : GoodIn wsX7_standsNow (wsV RX7 264 RX1 yX1_stands wsX1_stands) := goodIn_app (goodIn_of _ (by decide +kernel)) ggX7_standsNow_X1_stands
theorem dX7_standsNow_0 : decode cX7_standsNow 0 = .ok (.aload_n 0, 1) := by decide +kernel
theorem dX7_standsNow_1 : decode cX7_standsNow 1 = .ok (.getfield 38, 3) := by decide +kernel
theorem dX7_standsNow_4 : decode cX7_standsNow 4 = .ok (.iload_n 1, 1) := by decide +kernel
theorem dX7_standsNow_5 : decode cX7_standsNow 5 = .ok (.aload_n 0, 1) := by decide +kernel
theorem dX7_standsNow_6 : decode cX7_standsNow 6 = .ok (.getfield 29, 3) := by decide +kernel
theorem dX7_standsNow_9 : decode cX7_standsNow 9 = .ok (.iload_n 1, 1) := by decide +kernel
theorem dX7_standsNow_10 : decode cX7_standsNow 10 = .ok (.invokevirtual 116, 3) := by decide +kernel
theorem dX7_standsNow_13 : decode cX7_standsNow 13 = .ok (.aload_n 0, 1) := by decide +kernel
theorem dX7_standsNow_14 : decode cX7_standsNow 14 = .ok (.getfield 29, 3) := by decide +kernel
theorem dX7_standsNow_17 : decode cX7_standsNow 17 = .ok (.getfield 135, 3) := by decide +kernel
theorem dX7_standsNow_20 : decode cX7_standsNow 20 = .ok (.invokevirtual 264, 3) := by decide +kernel
theorem dX7_standsNow_23 : decode cX7_standsNow 23 = .ok (.lreturn, 1) := by decide +kernel
set_option maxRecDepth 20000 in
theorem ggX7_firstStood_X7_standsNow : GoodIn wsX7_firstStood wsX7_standsNow := goodIn_r _ [7, 8, 1, 9, 10, 11, 12, 13, 14, 15, 16, 17, 18, 19, 20, 21, 22, 23, 24, 25, 26, 27, 28, 29, 30, 31, 32, 33, 6, 34, 35, 37, 38, 39, 40, 41, 42, 43, 44, 45, 46, 47, 48, 49, 50, 51, 52, 53, 54, 55, 56, 57, 58, 59] (by decide +kernel) (by decide +kernel)
set_option maxRecDepth 20000 in
theorem gX7_firstStood_X7_standsNow : GoodIn wsX7_firstStood (wsV RX7 125 RX7 yX7_standsNow wsX7_standsNow) := goodIn_app (goodIn_of _ (by decide +kernel)) ggX7_firstStood_X7_standsNow
set_option maxRecDepth 20000 in
theorem ggX7_firstStood_X0_startOf : GoodIn wsX7_firstStood wsX0_startOf := goodIn_r _ [13, 14, 46, 47, 48, 49] (by decide +kernel) (by decide +kernel)
set_option maxRecDepth 20000 in
theorem gX7_firstStood_X0_startOf : GoodIn wsX7_firstStood (wsV RX7 116 RX0 yX0_startOf wsX0_startOf) := goodIn_app (goodIn_of _ (by decide +kernel)) ggX7_firstStood_X0_startOf
set_option maxRecDepth 20000 in
theorem ggX7_firstStood_X6_walkOf : GoodIn wsX7_firstStood wsX6_walkOf := goodIn_r _ [25, 26, 27, 53, 54, 55, 56, 57, 58, 59] (by decide +kernel) (by decide +kernel)
set_option maxRecDepth 20000 in
theorem gX7_firstStood_X6_walkOf : GoodIn wsX7_firstStood (wsV RX7 163 RX6 yX6_walkOf wsX6_walkOf) := goodIn_app (goodIn_of _ (by decide +kernel)) ggX7_firstStood_X6_walkOf
theorem dX7_firstStood_0 : decode cX7_firstStood 0 = .ok (.aload_n 0, 1) := by decide +kernel
theorem dX7_firstStood_1 : decode cX7_firstStood 1 = .ok (.iload_n 1, 1) := by decide +kernel
theorem dX7_firstStood_2 : decode cX7_firstStood 2 = .ok (.invokevirtual 125, 3) := by decide +kernel
theorem dX7_firstStood_5 : decode cX7_firstStood 5 = .ok (.lconst 0, 1) := by decide +kernel
theorem dX7_firstStood_6 : decode cX7_firstStood 6 = .ok (.lcmp, 1) := by decide +kernel
theorem dX7_firstStood_7 : decode cX7_firstStood 7 = .ok (.ifCond .ne 5, 3) := by decide +kernel
theorem dX7_firstStood_10 : decode cX7_firstStood 10 = .ok (.iconst (-1), 1) := by decide +kernel
theorem dX7_firstStood_11 : decode cX7_firstStood 11 = .ok (.ireturn, 1) := by decide +kernel
theorem dX7_firstStood_12 : decode cX7_firstStood 12 = .ok (.aload_n 0, 1) := by decide +kernel
theorem dX7_firstStood_13 : decode cX7_firstStood 13 = .ok (.getfield 29, 3) := by decide +kernel
theorem dX7_firstStood_16 : decode cX7_firstStood 16 = .ok (.iload_n 1, 1) := by decide +kernel
theorem dX7_firstStood_17 : decode cX7_firstStood 17 = .ok (.invokevirtual 116, 3) := by decide +kernel
theorem dX7_firstStood_20 : decode cX7_firstStood 20 = .ok (.aload_n 0, 1) := by decide +kernel
theorem dX7_firstStood_21 : decode cX7_firstStood 21 = .ok (.getfield 19, 3) := by decide +kernel
theorem dX7_firstStood_24 : decode cX7_firstStood 24 = .ok (.iload_n 1, 1) := by decide +kernel
theorem dX7_firstStood_25 : decode cX7_firstStood 25 = .ok (.invokevirtual 163, 3) := by decide +kernel
theorem dX7_firstStood_28 : decode cX7_firstStood 28 = .ok (.iadd, 1) := by decide +kernel
theorem dX7_firstStood_29 : decode cX7_firstStood 29 = .ok (.aload_n 0, 1) := by decide +kernel
theorem dX7_firstStood_30 : decode cX7_firstStood 30 = .ok (.getfield 29, 3) := by decide +kernel
theorem dX7_firstStood_33 : decode cX7_firstStood 33 = .ok (.getfield 135, 3) := by decide +kernel
theorem dX7_firstStood_36 : decode cX7_firstStood 36 = .ok (.iadd, 1) := by decide +kernel
theorem dX7_firstStood_37 : decode cX7_firstStood 37 = .ok (.ireturn, 1) := by decide +kernel
set_option maxRecDepth 20000 in
theorem ggX7_whoStandIn_X7_standsNow : GoodIn wsX7_whoStandIn wsX7_standsNow := goodIn_r _ [6, 7, 8, 9, 10, 11, 12, 13, 14, 15, 16, 17, 18, 19, 20, 21, 22, 23, 24, 25, 26, 27, 28, 29, 30, 31, 32, 33, 5, 34, 35, 36, 37, 38, 39, 40, 41, 42, 43, 44, 52, 53, 54, 55, 56, 57, 58, 45, 46, 47, 48, 49, 50, 51] (by decide +kernel) (by decide +kernel)
set_option maxRecDepth 20000 in
theorem gX7_whoStandIn_X7_standsNow : GoodIn wsX7_whoStandIn (wsV RX7 125 RX7 yX7_standsNow wsX7_standsNow) := goodIn_app (goodIn_of _ (by decide +kernel)) ggX7_whoStandIn_X7_standsNow
theorem dX7_whoStandIn_0 : decode cX7_whoStandIn 0 = .ok (.iconst 0, 1) := by decide +kernel
